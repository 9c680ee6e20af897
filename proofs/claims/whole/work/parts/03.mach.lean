/-! ===== a small machine of numbers: an int, a long, or a reference with the shape of what it names ===== -/
abbrev bc_V : Type := Int ⊕ (Int ⊕ ((Nat × Nat) × Int))
abbrev bc_L : Type := List (Option bc_V)
abbrev bc_St : Type := List bc_V
abbrev bc_H : Type := Int → Int → Int
abbrev bc_G : Type := Option (Σ' p : Prop, Decidable p)
abbrev bc_g (p : Prop) [d : Decidable p] : bc_G := some ⟨p, d⟩
def bc_upd (h : bc_H) (r j v : Int) : bc_H := fun a b => if a = r ∧ b = j then v else h a b
def bc_blk (h : bc_H) (r1 s1 r2 d2 n : Int) : bc_H := fun a b => if a = r2 ∧ d2 ≤ b ∧ b < d2 + n then h r1 (s1 + (b - d2)) else h a b
def bc_row (h : bc_H) (r : Int) (f : Int → Int) : bc_H := fun a b => if a = r then f b else h a b
def bc_w32 (x : Int) : Int := (x + 2147483648) % 4294967296 - 2147483648
def bc_w64 (x : Int) : Int := (x + 9223372036854775808) % 18446744073709551616 - 9223372036854775808
def bc_w8 (x : Int) : Int := (x + 128) % 256 - 128
def bc_w16 (x : Int) : Int := (x + 32768) % 65536 - 32768
def bc_and (a b : Int) : Int := (Int32.ofInt a &&& Int32.ofInt b).toInt
def bc_or (a b : Int) : Int := (Int32.ofInt a ||| Int32.ofInt b).toInt
def bc_xor (a b : Int) : Int := (Int32.ofInt a ^^^ Int32.ofInt b).toInt
def bc_shl (a b : Int) : Int := (Int32.ofInt a <<< (Int32.ofInt b &&& 31)).toInt
def bc_shr (a b : Int) : Int := (Int32.ofInt a >>> (Int32.ofInt b &&& 31)).toInt
def bc_ushr (a b : Int) : Int := ((Int32.ofInt a).toUInt32 >>> ((Int32.ofInt b).toUInt32 &&& Int32.toUInt32 31)).toInt32.toInt
def bc_landL (a b : Int) : Int := (Int64.ofInt a &&& Int64.ofInt b).toInt
def bc_lorL (a b : Int) : Int := (Int64.ofInt a ||| Int64.ofInt b).toInt
def bc_lshl (a b : Int) : Int := (Int64.ofInt a <<< ((Int32.ofInt b).toInt64 &&& 63)).toInt
def bc_lshr (a b : Int) : Int := (Int64.ofInt a >>> ((Int32.ofInt b).toInt64 &&& 63)).toInt
def bc_lushr (a b : Int) : Int := ((Int64.ofInt a).toUInt64 >>> ((Int32.ofInt b).toInt64.toUInt64 &&& Int64.toUInt64 63)).toInt64.toInt
def bc_lcmp (a b : Int) : Int := if a < b then -1 else if a = b then 0 else 1
/-- locals by their places -/
def bc_lget : bc_L → Nat → Option bc_V
  | [], _ => none
  | a :: _, 0 => a
  | _ :: l, n + 1 => bc_lget l n
def bc_lset : bc_L → Nat → Option bc_V → bc_L
  | [], 0, v => [v]
  | [], n + 1, v => none :: bc_lset [] n v
  | _ :: l, 0, v => v :: l
  | a :: l, n + 1, v => a :: bc_lset l n v
def bc_cl (ls : bc_L) : Nat → bc_L
  | 0 => ls
  | n + 1 => match bc_lget ls n with
    | some (.inr (.inl _)) => bc_lset ls n none
    | _ => ls
def bc_sto (ls : bc_L) (n : Nat) (v : bc_V) : bc_L := bc_lset (bc_cl ls n) n (some v)
def bc_sto2 (ls : bc_L) (n : Nat) (v : bc_V) : bc_L := bc_lset (bc_lset (bc_cl ls n) n (some v)) (n + 1) none
def bc_ent : List bc_V → bc_L
  | [] => []
  | .inr (.inl x) :: l => some (.inr (.inl x)) :: none :: bc_ent l
  | v :: l => some v :: bc_ent l
def bc_pad : bc_L → Nat → bc_L
  | l, 0 => l
  | [], n + 1 => none :: bc_pad [] n
  | a :: l, n + 1 => a :: bc_pad l n
/-- how many words an operand takes -/
def bc_cat : bc_St → Nat
  | [] => 0
  | .inr (.inl _) :: l => 2 + bc_cat l
  | _ :: l => 1 + bc_cat l
def bc_take : Nat → bc_St → bc_St → Option (bc_St × bc_St)
  | 0, st, acc => some (acc, st)
  | n + 1, v :: st, acc => bc_take n st (v :: acc)
  | _ + 1, [], _ => none
def bc_two {α : Type} (l : List (List α)) (k : Nat) (d : α) : α := (l.getD (k / 16) []).getD (k % 16) d
/-- 'p' where the flag is down; nothing to show where it is up -/
def bc_ifn (ph : Bool) (p : Prop) [Decidable p] : bc_G := match ph with
  | true => none
  | false => bc_g p
/-- the conditions of a branch: taken, not taken -/
def bc_yes (c : ClassFile.Cond) (a b : Int) : Prop := match c with
  | .eq => a = b | .ne => a ≠ b | .lt => a < b | .ge => b ≤ a | .gt => b < a | .le => a ≤ b
def bc_not (c : ClassFile.Cond) (a b : Int) : Prop := match c with
  | .eq => a ≠ b | .ne => a = b | .lt => b ≤ a | .ge => a < b | .gt => a ≤ b | .le => b < a
