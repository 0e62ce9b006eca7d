/-! AN ABSTRACT MACHINE. Values (tag, payload): 0 an int by its number modulo 2^32; 1 an int of the script's, by its place; 2 some int; 3 a long by its number modulo 2^64; 4 some long; 5 null; 6 the thing at a place of the world; 7 some reference; 8 the script; 9 an int of a range (lowest * 2^32 + greatest, as z_up lays them); 10 the long of an int of the script's. -/
abbrev zV : Type := Nat × Nat
/-- a thing: (kind, x, n, contents): 0 an object of the class number x; 1 a row of ints, bytes or booleans, all told; 2 such a row, each place as the one told; 4 a row of longs, all told; 5 each place as the one told; 6 a row of references, all told; 8 each place as the one told. x of a row: the place of its type -/
abbrev zC : Type := Nat × Nat × Nat × List zV
/-- the world: things (by sixteen), types of rows (by numbers: 0 int, 1 byte, 2 boolean, 3 long), cells and slots made -/
abbrev zS : Type := List (List zC) × List Nat × Nat × Nat
abbrev zL : Type := List (Nat × zV)
/-- an instruction: its pc, itself, numbers that were looked up for it -/
abbrev zI : Type := Nat × Instr × Nat × Nat × Nat × Nat
/-- a row of the exception table: from, to, the place of the handler, the exception -/
abbrev zE : Type := Nat × Nat × Nat × Nat
/-- a method: instructions, exception rows -/
abbrev zM : Type := List zI × List zE
/-- how a run ends: (0 it can't go on, 1 returned v, 2 returned, 3 threw, 4 wants a range cut, 5 came to its stop), v, locals, stack, world -/
abbrev zO : Type := Nat × zV × zL × List zV × zS
def z_bad (S : zS) : zO := (0, (0, 0), [], [], S)
def z_32 : Nat := 4294967296
def z_31 : Nat := 2147483648
def z_64 : Nat := 18446744073709551616
def z_63 : Nat := 9223372036854775808
def z_at {α : Type} : List α → Nat → Option α
  | [], _ => none
  | a :: _, 0 => some a
  | _ :: r, n + 1 => z_at r n
/-- an int's number, so laid that the order is the ints' own -/
def z_up (n : Nat) : Nat := (n + z_31) % z_32
/-- the range of an int, laid so -/
def z_rg (env : List (Nat × Nat)) (v : zV) : Option (Nat × Nat) := match v.1 with
  | 0 => some (z_up v.2, z_up v.2)
  | 1 => z_at env v.2
  | 9 => some (v.2 / z_32, v.2 % z_32)
  | _ => none
/-- an int that is known -/
def z_kn (env : List (Nat × Nat)) (v : zV) : Option Nat := match v.1 with
  | 0 => some v.2
  | 1 => match z_at env v.2 with
    | some q => if Nat.beq q.1 q.2 then some ((q.1 + z_31) % z_32) else none
    | none => none
  | _ => none
def z_isI (v : zV) : Bool := Nat.ble v.1 2 || Nat.beq v.1 9
def z_isL (v : zV) : Bool := Nat.beq v.1 3 || Nat.beq v.1 4 || Nat.beq v.1 10
/-- two ints, an operation on their numbers -/
def z_i2 (env : List (Nat × Nat)) (f : Nat → Nat → Nat) (x y : zV) : zV := match z_kn env x, z_kn env y with
  | some a, some b => (0, f a b)
  | _, _ => (2, 0)
def z_and (env : List (Nat × Nat)) (x y : zV) : zV := match x, y with
  | (1, 0), (0, 31) => (1, 6)
  | x, y => z_i2 env Nat.land x y
def z_add (a b : Nat) : Nat := (a + b) % z_32
/-- the counter of a loop (place 7) and 1: place 8 -/
def z_is7 (x y : zV) : Bool := Nat.beq x.1 1 && Nat.beq x.2 7 && Nat.beq y.1 0 && Nat.beq y.2 1
/-- a sum: known, or of a range -/
def z_addR (env : List (Nat × Nat)) (x y : zV) : zV := match z_kn env x, z_kn env y with
  | some a, some b => (0, z_add a b)
  | _, _ => if z_is7 x y then (1, 8) else match z_rg env x, z_rg env y with
    | some p, some q => if Nat.ble z_31 (p.1 + q.1) && Nat.blt (p.2 + q.2) (z_31 + z_32) then (9, (p.1 + q.1 - z_31) * z_32 + (p.2 + q.2 - z_31)) else (2, 0)
    | _, _ => (2, 0)
def z_l2 (f : Nat → Nat → Nat) (x y : zV) : zV := match x.1, y.1 with
  | 3, 3 => (3, f x.2 y.2)
  | _, _ => (4, 0)
def z_sub (a b : Nat) : Nat := (a + (z_32 - b % z_32)) % z_32
/-- a difference: known, or of a range -/
def z_subR (env : List (Nat × Nat)) (x y : zV) : zV := match z_kn env x, z_kn env y with
  | some a, some b => (0, z_sub a b)
  | _, _ => match z_rg env x, z_rg env y with
    | some p, some q => if Nat.ble q.2 (p.1 + z_31) && Nat.blt (p.2 + z_31) (z_32 + q.1) && Nat.ble q.1 (p.2 + z_31) then (9, (p.1 + z_31 - q.2) * z_32 + (p.2 + z_31 - q.1)) else (2, 0)
    | _, _ => (2, 0)
def z_mul (a b : Nat) : Nat := (a * b) % z_32
def z_ladd (a b : Nat) : Nat := a + b
def z_lsub (a b : Nat) : Nat := a + (z_64 - b % z_64)
/-- comparing two ranges: 0 no, 1 yes, 2 it depends -/
def z_lt (a b : Nat × Nat) : Nat := if Nat.blt a.2 b.1 then 1 else if Nat.ble b.2 a.1 then 0 else 2
def z_not (n : Nat) : Nat := match n with
  | 0 => 1
  | 1 => 0
  | n => n
def z_eq (a b : Nat × Nat) : Nat := if Nat.beq a.1 a.2 && Nat.beq b.1 b.2 && Nat.beq a.1 b.1 then 1 else if Nat.blt a.2 b.1 || Nat.blt b.2 a.1 then 0 else 2
def z_cond (c : ClassFile.Cond) (a b : Nat × Nat) : Nat := match c with
  | .eq => z_eq a b
  | .ne => z_not (z_eq a b)
  | .lt => z_lt a b
  | .ge => z_not (z_lt a b)
  | .gt => z_lt b a
  | .le => z_not (z_lt b a)
/-- where a range is to be cut -/
def z_cut (c : ClassFile.Cond) (a b : Nat × Nat) (x y : zV) : zV :=
  let (k, r, t, up) := if Nat.beq x.1 1 && !(Nat.beq a.1 a.2) then (x.2, a, b, match c with
      | .gt => true
      | .le => true
      | _ => false) else (y.2, b, a, match c with
      | .lt => true
      | .ge => true
      | _ => false)
  (k, match c with
    | .eq => if Nat.beq t.1 r.1 then t.1 + 1 else t.1
    | .ne => if Nat.beq t.1 r.1 then t.1 + 1 else t.1
    | _ => if up then t.1 + 1 else t.1)
/-- the places that values take -/
def z_cats : List zV → Nat
  | [] => 0
  | v :: r => (if z_isL v then 2 else 1) + z_cats r
def z_get (ls : zL) (k : Nat) : Option zV := match ls with
  | [] => none
  | q :: r => if Nat.beq q.1 k then some q.2 else z_get r k
def z_set1 (ls : zL) (k : Nat) (v : zV) : zL := (k, v) :: ls.filter (fun q => !(Nat.beq q.1 k) && !(Nat.beq (q.1 + 1) k && z_isL q.2))
def z_set2 (ls : zL) (k : Nat) (v : zV) : zL := (k, v) :: ls.filter (fun q => !(Nat.beq q.1 k) && !(Nat.beq (q.1 + 1) k && z_isL q.2) && !(Nat.beq q.1 (k + 1)))
def z_args (k : Nat) : List zV → zL
  | [] => []
  | v :: r => (k, v) :: z_args (if z_isL v then k + 2 else k + 1) r
def z_put {α : Type} : List α → Nat → α → List α
  | [], _, _ => []
  | _ :: r, 0, b => b :: r
  | a :: r, n + 1, b => a :: z_put r n b
def z_drop {α : Type} : List α → Nat → List α
  | l, 0 => l
  | [], _ + 1 => []
  | _ :: r, n + 1 => z_drop r n
/-- the things by sixteen -/
def z_cat (h : List (List zC)) (k : Nat) : Option zC := match z_at h (k / 16) with
  | some b => z_at b (k % 16)
  | none => none
def z_cput (h : List (List zC)) (k : Nat) (c : zC) : List (List zC) := match z_at h (k / 16) with
  | some b => z_put h (k / 16) (z_put b (k % 16) c)
  | none => h
def z_len {α : Type} : List α → Nat
  | [] => 0
  | _ :: r => z_len r + 1
def z_clen (h : List (List zC)) : Nat := match h with
  | [] => 0
  | b :: r => z_len b + z_clen r
def z_cadd (h : List (List zC)) (c : zC) : List (List zC) := match h with
  | [] => [[c]]
  | b :: r => match r with
    | [] => if Nat.blt (z_len b) 16 then [b ++ [c]] else [b, [c]]
    | b2 :: r2 => b :: z_cadd (b2 :: r2) c
def z_cadds (h : List (List zC)) (c : zC) : Nat → List (List zC)
  | 0 => h
  | n + 1 => z_cadds (z_cadd h c) c n
/-- the first n of a list the other way round, and the rest -/
def z_pop (n : Nat) (st acc : List zV) : Option (List zV × List zV) := match n, st with
  | 0, st => some (acc, st)
  | _ + 1, [] => none
  | n + 1, v :: r => z_pop n r (v :: acc)
def z_dflt (n : Nat) : zV := match n with
  | 0 => (0, 0)
  | 1 => (3, 0)
  | _ => (5, 0)
/-- new objects: the fields' defaults by classes -/
abbrev zT : Type := List (List Nat)
def z_handler (es : List zE) (pc x : Nat) : Option Nat := match es with
  | [] => none
  | (f, t, h, y) :: r => if Nat.ble f pc && Nat.blt pc t && Nat.beq x y then some h else z_handler r pc x
def z_rep (v : zV) : Nat → List zV
  | 0 => []
  | n + 1 => v :: z_rep v n
/-- a load from a row -/
def z_ald (c : zC) (j : Nat) : Option zV := if Nat.blt j c.2.2.1 && Nat.blt c.2.2.1 z_31 then (match c.1 with
  | 1 => z_at c.2.2.2 j
  | 2 => z_at c.2.2.2 0
  | 4 => z_at c.2.2.2 j
  | 5 => z_at c.2.2.2 0
  | 6 => z_at c.2.2.2 j
  | 8 => z_at c.2.2.2 0
  | _ => none) else none
def z_same1 (l : List zV) (v u : zV) : List zV := match l with
  | w :: _ => if Nat.beq w.1 v.1 && Nat.beq w.2 v.2 then [w] else [u]
  | [] => [u]
/-- a store into a row of ints -/
def z_iast (c : zC) (j : Nat) (v : zV) : Option zC := if Nat.blt j c.2.2.1 && Nat.blt c.2.2.1 z_31 then (match c.1 with
  | 1 => some (1, c.2.1, c.2.2.1, z_put c.2.2.2 j v)
  | 2 => some (2, c.2.1, c.2.2.1, z_same1 c.2.2.2 v (2, 0))
  | _ => none) else none
def z_last (c : zC) (j : Nat) (v : zV) : Option zC := if Nat.blt j c.2.2.1 && Nat.blt c.2.2.1 z_31 then (match c.1 with
  | 4 => some (4, c.2.1, c.2.2.1, z_put c.2.2.2 j v)
  | 5 => some (5, c.2.1, c.2.2.1, z_same1 c.2.2.2 v (4, 0))
  | _ => none) else none
def z_aast (c : zC) (j : Nat) (v : zV) : Option zC := if Nat.blt j c.2.2.1 && Nat.blt c.2.2.1 z_31 then (match c.1 with
  | 6 => some (6, c.2.1, c.2.2.1, z_put c.2.2.2 j v)
  | _ => none) else none
/-- a byte of an int: not told -/
def z_byte (_ : List (Nat × Nat)) (_ : zV) : zV := (2, 0)
def z_long (env : List (Nat × Nat)) (v : zV) : zV := match z_kn env v with
  | some n => (3, if Nat.blt (n % z_32) z_31 then n % z_32 else z_64 - z_32 + n % z_32)
  | none => if Nat.beq v.1 1 then (10, v.2) else (4, 0)
/-- the world after a call made so many cells and slots -/
def z_grow (S : zS) (S2 : zS) : zS := (S2.1, S2.2.1, S.2.2.1 + S2.2.2.1, S.2.2.2 + S2.2.2.2)
def z_made (S : zS) (c : zC) (n : Nat) : zS := (z_cadd S.1 c, S.2.1, S.2.2.1 + 1, S.2.2.2 + n)
def z_madeT (S : zS) (c : zC) (t : Nat) (n : Nat) : zS := (z_cadd S.1 c, S.2.1 ++ [t], S.2.2.1 + 1, S.2.2.2 + n)
def z_with (S : zS) (k : Nat) (c : zC) : zS := (z_cput S.1 k c, S.2.1, S.2.2.1, S.2.2.2)
