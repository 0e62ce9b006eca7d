/-- locals, stack, world -/
abbrev zK : Type := zL × List zV × zS
/-- what an instruction does: (0 nothing, 1 on, 2 to a place, 3 returns v, 4 returns, 5 throws, 6 wants a cut, 7 calls), a number, a value, what then stands -/
abbrev zN : Type := Nat × Nat × zV × zK
/-- a summary: (the method, its depth), arguments, the world (things, types), what it answers, the things behind it -/
abbrev zSum : Type := (Nat × Nat) × List zV × List (List zC) × List Nat × zV × List (List zC)
/-- defaults of classes, summaries, element types (1 more than the class that it is, or 0), the script's size, ranges -/
abbrev zG : Type := (zT × List zSum) × List Nat × Nat × List (Nat × Nat)
abbrev zF : Type := zG → Nat → Nat → Nat → zK → zN
/-- an instruction: its pc, the number of what it does, numbers that were looked up for it -/
abbrev zJ : Type := Nat × Nat × Nat × Nat × Nat
/-- a method: instructions, exception rows, tables of switches (default, lowest, places) -/
abbrev zP : Type := List zJ × List zE × List (Nat × Nat × List Nat)
def zn_bad (k : zK) : zN := (0, 0, (0, 0), k)
def zn_on (ls : zL) (st : List zV) (S : zS) : zN := (1, 0, (0, 0), ls, st, S)
def zn_to (t : Nat) (ls : zL) (st : List zV) (S : zS) : zN := (2, t, (0, 0), ls, st, S)
def zn_cut (v : zV) (k : zK) : zN := (6, 0, v, k)
def zs_none : zF := fun _ _ _ _ k => zn_bad k
def zs_int : zF := fun _ a _ _ k => zn_on k.1 ((0, a) :: k.2.1) k.2.2
def zs_long : zF := fun _ a _ _ k => zn_on k.1 ((3, a) :: k.2.1) k.2.2
def zs_null : zF := fun _ _ _ _ k => zn_on k.1 ((5, 0) :: k.2.1) k.2.2
def zs_load : zF := fun _ a _ _ k => match z_get k.1 a with
  | some v => if z_isL v || z_isI v then zn_bad k else zn_on k.1 (v :: k.2.1) k.2.2
  | none => zn_bad k
def zs_loadI : zF := fun _ a _ _ k => match z_get k.1 a with
  | some v => if z_isI v then zn_on k.1 (v :: k.2.1) k.2.2 else zn_bad k
  | none => zn_bad k
def zs_loadL : zF := fun _ a _ _ k => match z_get k.1 a with
  | some v => if z_isL v then zn_on k.1 (v :: k.2.1) k.2.2 else zn_bad k
  | none => zn_bad k
def zs_store1 : zF := fun _ a _ _ k => match k.2.1 with
  | v :: st => if z_isI v then zn_on (z_set1 k.1 a v) st k.2.2 else zn_bad k
  | _ => zn_bad k
def zs_storeA : zF := fun _ a _ _ k => match k.2.1 with
  | v :: st => if z_isL v || z_isI v then zn_bad k else zn_on (z_set1 k.1 a v) st k.2.2
  | _ => zn_bad k
def zs_store2 : zF := fun _ a _ _ k => match k.2.1 with
  | v :: st => if z_isL v then zn_on (z_set2 k.1 a v) st k.2.2 else zn_bad k
  | _ => zn_bad k
def zs_iinc : zF := fun G a b _ k => match z_get k.1 a with
  | some v => if z_isI v then zn_on (z_set1 k.1 a (z_addR G.2.2.2 v (0, b))) k.2.1 k.2.2 else zn_bad k
  | none => zn_bad k
def zs_dup : zF := fun _ _ _ _ k => match k.2.1 with
  | v :: st => if z_isL v then zn_bad k else zn_on k.1 (v :: v :: st) k.2.2
  | _ => zn_bad k
/-- the constructor of every object's class -/
def zs_pop : zF := fun _ _ _ _ k => match k.2.1 with
  | v :: st => if Nat.beq v.1 6 && Nat.ble (z_cats st) 8 then zn_on k.1 st k.2.2 else zn_bad k
  | _ => zn_bad k
/-- two ints -/
def zs_i2 (f : List (Nat × Nat) → zV → zV → zV) : zF := fun G _ _ _ k => match k.2.1 with
  | y :: x :: st => if z_isI x && z_isI y then zn_on k.1 (f G.2.2.2 x y :: st) k.2.2 else zn_bad k
  | _ => zn_bad k
def zs_iadd : zF := zs_i2 z_addR
def zs_isub : zF := zs_i2 z_subR
def zs_imul : zF := zs_i2 (fun e => z_i2 e z_mul)
def zs_iand : zF := zs_i2 z_and
/-- what a shift gives isn't told -/
def zs_shift : zF := zs_i2 (fun _ _ _ => (2, 0))
def z_pos (y : zV) : Bool := Nat.beq y.1 0 && Nat.blt 0 y.2 && Nat.blt y.2 z_31
def z_div (e : List (Nat × Nat)) (x y : zV) : zV := match z_kn e x with
  | some m => if Nat.blt m z_31 then (0, m / y.2) else (2, 0)
  | none => (2, 0)
def z_rem (e : List (Nat × Nat)) (x y : zV) : zV := match z_kn e x with
  | some m => if Nat.blt m z_31 then (0, m % y.2) else (2, 0)
  | none => (2, 0)
def zs_d2 (f : List (Nat × Nat) → zV → zV → zV) : zF := fun G _ _ _ k => match k.2.1 with
  | y :: x :: st => if z_isI x && z_pos y then zn_on k.1 (f G.2.2.2 x y :: st) k.2.2 else zn_bad k
  | _ => zn_bad k
def zs_idiv : zF := zs_d2 z_div
def zs_irem : zF := zs_d2 z_rem
def zs_l2 (f : Nat → Nat → Nat) : zF := fun _ _ _ _ k => match k.2.1 with
  | y :: x :: st => if z_isL x && z_isL y then zn_on k.1 (z_l2 f x y :: st) k.2.2 else zn_bad k
  | _ => zn_bad k
def zs_ladd : zF := zs_l2 z_ladd
def zs_lsub : zF := zs_l2 z_lsub
def zs_i2l : zF := fun G _ _ _ k => match k.2.1 with
  | x :: st => if z_isI x then zn_on k.1 (z_long G.2.2.2 x :: st) k.2.2 else zn_bad k
  | _ => zn_bad k
def z_l2i (x : zV) : zV := match x.1 with
  | 3 => (0, x.2 % z_32)
  | _ => (2, 0)
def zs_l2i : zF := fun _ _ _ _ k => match k.2.1 with
  | x :: st => if z_isL x then zn_on k.1 (z_l2i x :: st) k.2.2 else zn_bad k
  | _ => zn_bad k
def zs_i2b : zF := fun G _ _ _ k => match k.2.1 with
  | x :: st => if z_isI x then zn_on k.1 (z_byte G.2.2.2 x :: st) k.2.2 else zn_bad k
  | _ => zn_bad k
def z_lcmp (p q : Nat) : Nat := if Nat.blt q p then 1 else if Nat.beq p q then 0 else z_32 - 1
def zs_lcmp : zF := fun _ _ _ _ k => match k.2.1 with
  | y :: x :: st => if Nat.beq x.1 3 && Nat.beq y.1 3 then zn_on k.1 ((0, z_lcmp ((x.2 + z_63) % z_64) ((y.2 + z_63) % z_64)) :: st) k.2.2 else if Nat.beq x.1 10 && Nat.beq y.1 10 && Nat.beq x.2 y.2 then zn_on k.1 ((0, 0) :: st) k.2.2 else zn_bad k
  | _ => zn_bad k
/-- a branch -/
def z_br (n t : Nat) (cut : zV) (ls : zL) (st : List zV) (S : zS) : zN := match n with
  | 0 => zn_on ls st S
  | 1 => zn_to t ls st S
  | _ => zn_cut cut (ls, st, S)
def zs_icmp (c : ClassFile.Cond) : zF := fun G a _ _ k => match k.2.1 with
  | y :: x :: st => (match z_rg G.2.2.2 x, z_rg G.2.2.2 y with
    | some p, some q => z_br (z_cond c p q) a (z_cut c p q x y) k.1 st k.2.2
    | _, _ => zn_bad k)
  | _ => zn_bad k
def zs_if (c : ClassFile.Cond) : zF := fun G a _ _ k => match k.2.1 with
  | x :: st => (match z_rg G.2.2.2 x with
    | some p => z_br (z_cond c p (z_31, z_31)) a (z_cut c p (z_31, z_31) x (0, 0)) k.1 st k.2.2
    | none => zn_bad k)
  | _ => zn_bad k
def zs_ifnull : zF := fun _ a _ _ k => match k.2.1 with
  | x :: st => if Nat.beq x.1 5 then zn_to a k.1 st k.2.2 else if Nat.beq x.1 6 then zn_on k.1 st k.2.2 else zn_bad k
  | _ => zn_bad k
def zs_ifnonnull : zF := fun _ a _ _ k => match k.2.1 with
  | x :: st => if Nat.beq x.1 6 then zn_to a k.1 st k.2.2 else if Nat.beq x.1 5 then zn_on k.1 st k.2.2 else zn_bad k
  | _ => zn_bad k
def zs_goto : zF := fun _ a _ _ k => zn_to a k.1 k.2.1 k.2.2
/-- a switch: the machine finds the place in the table a -/
def zs_switch : zF := fun G a _ _ k => match k.2.1 with
  | x :: st => (match z_kn G.2.2.2 x with
    | some n => if Nat.blt n z_31 then (8, n, (a, 0), k.1, st, k.2.2) else zn_bad k
    | none => (match z_rg G.2.2.2 x with
      | some p => zn_cut (x.2, p.1 + 1) k
      | none => zn_bad k))
  | _ => zn_bad k
def zs_getf : zF := fun _ a b _ k => match k.2.1 with
  | x :: st => (match z_cat k.2.2.1 x.2 with
    | some c => if Nat.beq x.1 6 && Nat.beq c.1 0 && Nat.beq c.2.1 a then (match z_at c.2.2.2 b with
      | some v => zn_on k.1 (v :: st) k.2.2
      | none => zn_bad k) else zn_bad k
    | none => zn_bad k)
  | _ => zn_bad k
/-- may it lie in a field: 0 of ints, 1 of longs, 2 of references, 3 of booleans -/
def z_fit (t : Nat) (v : zV) : Bool := match t with
  | 0 => z_isI v
  | 1 => z_isL v
  | 2 => Nat.beq v.1 5 || Nat.beq v.1 6
  | 3 => Nat.beq v.1 0 && Nat.ble v.2 1
  | _ => false
def zs_putf : zF := fun _ a b t k => match k.2.1 with
  | v :: x :: st => (match z_cat k.2.2.1 x.2 with
    | some c => if Nat.beq x.1 6 && Nat.beq c.1 0 && Nat.beq c.2.1 a && z_fit t v && Nat.blt b (z_len c.2.2.2) then zn_on k.1 st (z_with k.2.2 x.2 (0, a, c.2.2.1, z_put c.2.2.2 b v)) else zn_bad k
    | none => zn_bad k)
  | _ => zn_bad k
def zs_new : zF := fun G a _ c k => match z_at G.1.1 a with
  | some ds => zn_on k.1 ((6, z_clen k.2.2.1) :: k.2.1) (z_made k.2.2 (0, a, 0, ds.map z_dflt) c)
  | none => zn_bad k
def zs_throw : zF := fun _ a _ _ k => if Nat.ble (z_cats k.2.1) 8 then (5, 0, (a, 0), [], [], (k.2.2.1, k.2.2.2.1, k.2.2.2.2.1 + 1, k.2.2.2.2.2 + 6)) else zn_bad k
def z_row (a n t : Nat) : zC := match a with
  | 0 => if Nat.ble n 12 then (1, t, n, z_rep (0, 0) n) else (2, t, n, [(0, 0)])
  | _ => if Nat.ble n 12 then (4, t, n, z_rep (3, 0) n) else (5, t, n, [(3, 0)])
/-- a: ints or longs; b: the element type -/
def zs_newarray : zF := fun G a b _ k => match k.2.1 with
  | x :: st => (match z_kn G.2.2.2 x with
    | some n => if Nat.blt n 1000000 then zn_on k.1 ((6, z_clen k.2.2.1) :: st) (z_madeT k.2.2 (z_row a n (z_len k.2.2.2.1)) b n) else zn_bad k
    | none => zn_bad k)
  | _ => zn_bad k
def zs_anewarray : zF := fun G _ b _ k => match k.2.1 with
  | x :: st => (match z_kn G.2.2.2 x with
    | some n => if Nat.ble n 600 then zn_on k.1 ((6, z_clen k.2.2.1) :: st) (z_madeT k.2.2 (if Nat.ble n 100 then (6, z_len k.2.2.2.1, n, z_rep (5, 0) n) else (8, z_len k.2.2.2.1, n, [(5, 0)])) b n) else zn_bad k
    | none => zn_bad k)
  | _ => zn_bad k
def z_refs (a : Nat) : Nat → List zV
  | 0 => []
  | n + 1 => (6, a) :: z_refs (a + 1) n
def zs_multi : zF := fun G a b _ k => match k.2.1 with
  | y :: x :: st => (match z_kn G.2.2.2 x, z_kn G.2.2.2 y with
    | some n, some m => if Nat.ble n 100 && Nat.ble m 600 then zn_on k.1 ((6, z_clen k.2.2.1) :: st)
        (z_cadds (z_cadd k.2.2.1 (6, z_len k.2.2.2.1, n, z_refs (z_clen k.2.2.1 + 1) n)) (z_row 0 m (z_len k.2.2.2.1 + 1)) n, k.2.2.2.1 ++ [a, b], k.2.2.2.2.1 + 1 + n, k.2.2.2.2.2 + n + n * m) else zn_bad k
    | _, _ => zn_bad k)
  | _ => zn_bad k
def zs_alen : zF := fun G _ _ _ k => match k.2.1 with
  | x :: st => if Nat.beq x.1 8 then zn_on k.1 ((1, 9) :: st) k.2.2 else (match z_cat k.2.2.1 x.2 with
    | some c => if Nat.beq x.1 6 && Nat.blt 0 c.1 then zn_on k.1 ((0, c.2.2.1) :: st) k.2.2 else zn_bad k
    | none => zn_bad k)
  | _ => zn_bad k
/-- an index that isn't known: where its range is to be cut -/
def z_icut (e : List (Nat × Nat)) (y : zV) (k : zK) : zN := match z_rg e y with
  | some p => if Nat.beq y.1 1 then zn_cut (y.2, p.1 + 1) k else zn_bad k
  | none => zn_bad k
/-- a row whose places are all as the one told, and an index within it -/
def z_alike (c : zC) (e : List (Nat × Nat)) (y : zV) : Bool := (Nat.beq c.1 2 || Nat.beq c.1 5 || Nat.beq c.1 8) && (match z_rg e y with
  | some q => Nat.ble z_31 q.1 && Nat.blt q.2 (z_31 + c.2.2.1) && Nat.blt c.2.2.1 z_31
  | none => false)
/-- the type of a row is t or u -/
def z_tq (tys : List Nat) (k t u : Nat) : Bool := match z_at tys k with
  | some w => Nat.beq w t || Nat.beq w u
  | none => false
/-- a load: of a row of the kind lo or hi, whose elements are of the type t or u -/
def z_ld (lo hi : Nat) (t u : Nat) : zF := fun G _ _ _ k => match k.2.1 with
  | y :: x :: st => (if Nat.beq x.1 8 then (match z_kn G.2.2.2 y, z_kn G.2.2.2 (1, 9) with
      | some j, some n => if Nat.beq lo 1 && Nat.beq t 0 && Nat.blt j n && Nat.blt n 100 then zn_on k.1 ((1, j) :: st) k.2.2 else zn_bad k
      | _, _ => zn_bad k)
    else match z_cat k.2.2.1 x.2 with
      | none => zn_bad k
      | some c => if Nat.beq x.1 6 && (Nat.beq lo c.1 || Nat.beq c.1 hi) && z_tq k.2.2.2.1 c.2.1 t u then (match z_kn G.2.2.2 y with
        | some j => (match z_ald c j with
          | some v => zn_on k.1 (v :: st) k.2.2
          | none => zn_bad k)
        | none => if z_alike c G.2.2.2 y then (match z_at c.2.2.2 0 with
          | some v => zn_on k.1 (v :: st) k.2.2
          | none => zn_bad k) else z_icut G.2.2.2 y k) else zn_bad k)
  | _ => zn_bad k
def zs_iald : zF := z_ld 1 2 0 0
def zs_bald : zF := z_ld 1 2 1 2
def zs_lald : zF := z_ld 4 5 3 3
/-- 1 more than the class of a row's elements -/
def z_cls (G : zG) (tys : List Nat) (k : Nat) : Nat := match z_at tys k with
  | some w => (match z_at G.2.1 w with
    | some n => n
    | none => 0)
  | none => 0
/-- a load of a reference -/
def zs_aald : zF := fun G _ _ _ k => match k.2.1 with
  | y :: x :: st => (match z_cat k.2.2.1 x.2 with
    | none => zn_bad k
    | some c => if Nat.beq x.1 6 && (Nat.beq c.1 6 || Nat.beq c.1 8) && Nat.blt 0 (z_cls G k.2.2.2.1 c.2.1) then (match z_kn G.2.2.2 y with
      | some j => (match z_ald c j with
        | some v => zn_on k.1 (v :: st) k.2.2
        | none => zn_bad k)
      | none => if z_alike c G.2.2.2 y then (match z_at c.2.2.2 0 with
        | some v => zn_on k.1 (v :: st) k.2.2
        | none => zn_bad k) else z_icut G.2.2.2 y k) else zn_bad k)
  | _ => zn_bad k
def z_st (t : Nat) (ok : zV → Bool) (cv : List (Nat × Nat) → zV → zV) (f : zC → Nat → zV → Option zC) : zF := fun G _ _ _ k => match k.2.1 with
  | v :: y :: x :: st => (match z_kn G.2.2.2 y, z_cat k.2.2.1 x.2 with
    | none, _ => z_icut G.2.2.2 y k
    | some j, some c => if Nat.beq x.1 6 && ok v && z_tq k.2.2.2.1 c.2.1 t t then (match f c j (cv G.2.2.2 v) with
      | some c2 => zn_on k.1 st (z_with k.2.2 x.2 c2)
      | none => zn_bad k) else zn_bad k
    | some _, none => zn_bad k)
  | _ => zn_bad k
def zs_iast : zF := z_st 0 z_isI (fun _ v => v) z_iast
def zs_bast : zF := z_st 1 z_isI z_byte z_iast
def zs_zast : zF := z_st 2 (fun v => Nat.beq v.1 0 && Nat.ble v.2 1) (fun _ v => v) z_iast
def zs_last : zF := z_st 3 z_isL (fun _ v => v) z_last
/-- may it lie in a row whose elements are of the class n - 1 -/
def z_aok (k : zK) (n : Nat) (v : zV) : Bool := match v.1 with
  | 5 => Nat.blt 0 n
  | 6 => (match z_cat k.2.2.1 v.2 with
    | some u => Nat.beq u.1 0 && Nat.beq n (u.2.1 + 1)
    | none => false)
  | _ => false
def zs_aast : zF := fun G _ _ _ k => match k.2.1 with
  | v :: y :: x :: st => (match z_kn G.2.2.2 y, z_cat k.2.2.1 x.2 with
    | some j, some c => if Nat.beq x.1 6 && Nat.beq c.1 6 && z_aok k (z_cls G k.2.2.2.1 c.2.1) v then (match z_aast c j v with
      | some c2 => zn_on k.1 st (z_with k.2.2 x.2 c2)
      | none => zn_bad k) else zn_bad k
    | _, _ => zn_bad k)
  | _ => zn_bad k
def z_max (m n : Nat) : Nat := if Nat.blt (z_up m) (z_up n) then n else m
def z_min (m n : Nat) : Nat := if Nat.blt (z_up n) (z_up m) then n else m
def zs_m2 (f : Nat → Nat → Nat) : zF := fun G _ _ _ k => match k.2.1 with
  | y :: x :: st => if z_isI x && z_isI y && Nat.ble (z_cats st) 8 then zn_on k.1 (z_i2 G.2.2.2 f x y :: st) k.2.2 else zn_bad k
  | _ => zn_bad k
def zs_max : zF := zs_m2 z_max
def zs_min : zF := zs_m2 z_min
def zs_clone : zF := fun _ _ _ _ k => match k.2.1 with
  | x :: st => (match z_cat k.2.2.1 x.2 with
    | some c => if Nat.beq x.1 6 && Nat.beq c.1 1 && z_tq k.2.2.2.1 c.2.1 0 0 && Nat.ble (z_cats st) 8 then zn_on k.1 ((6, z_clen k.2.2.1) :: st) (z_madeT k.2.2 (1, z_len k.2.2.2.1, c.2.2.1, c.2.2.2) 0 c.2.2.1) else zn_bad k
    | none => zn_bad k)
  | _ => zn_bad k
/-- a cast of a row of ints to what it is -/
def zs_cast : zF := fun _ _ _ _ k => match k.2.1 with
  | x :: st => (match z_cat k.2.2.1 x.2 with
    | some c => if Nat.beq x.1 6 && Nat.beq c.1 1 && z_tq k.2.2.2.1 c.2.1 0 0 then zn_on k.1 (x :: st) k.2.2 else zn_bad k
    | none => zn_bad k)
  | _ => zn_bad k
/-- whom is it called upon: 0 nobody, 1 some object, n + 2 an object of the class n -/
def z_rcv (S : zS) (c : Nat) (as : List zV) : Bool := match c, as with
  | 0, _ => true
  | 1, r :: _ => Nat.beq r.1 6
  | n + 2, r :: _ => Nat.beq r.1 6 && (match z_cat S.1 r.2 with
    | some t => Nat.beq t.1 0 && Nat.beq t.2.1 n
    | none => false)
  | _, _ => false
/-- a call: method a, b / 64 arguments, b % 64 places for locals -/
def zs_call : zF := fun _ a b c k => match z_pop (b / 64) k.2.1 [] with
  | some (as, st) => if Nat.ble (z_cats st) 8 && Nat.ble (z_cats as) (b % 64) && z_rcv k.2.2 c as then (7, a, (0, 0), z_args 0 as, st, k.2.2) else zn_bad k
  | none => zn_bad k
def zs_nop : zF := fun _ _ _ _ k => zn_on k.1 k.2.1 k.2.2
/-- a return: of an int, a long, a reference, a boolean -/
def zs_ret : zF := fun _ a _ _ k => match k.2.1 with
  | [v] => if (match a with
      | 0 => z_isI v
      | 1 => z_isL v
      | 2 => Nat.beq v.1 5 || Nat.beq v.1 6
      | _ => Nat.beq v.1 0 && Nat.ble v.2 1) then (3, 0, v, [], [], k.2.2) else zn_bad k
  | _ => zn_bad k
/-- some boolean -/
def z_bool : zV := (9, 9223372039002259457)
/-- a return of a boolean, which isn't told -/
def zs_bret : zF := fun _ _ _ _ k => match k.2.1 with
  | [v] => if Nat.beq v.1 0 && Nat.ble v.2 1 then (3, 0, z_bool, [], [], k.2.2) else zn_bad k
  | _ => zn_bad k
/-- equal: values, lists of them, things, worlds, numbers -/
def z_eqv (x y : zV) : Bool := Nat.beq x.1 y.1 && Nat.beq x.2 y.2
def z_eqvs : List zV → List zV → Bool
  | [], [] => true
  | x :: r, y :: s => z_eqv x y && z_eqvs r s
  | _, _ => false
def z_eqc (x y : zC) : Bool := Nat.beq x.1 y.1 && Nat.beq x.2.1 y.2.1 && Nat.beq x.2.2.1 y.2.2.1 && z_eqvs x.2.2.2 y.2.2.2
def z_eqb : List zC → List zC → Bool
  | [], [] => true
  | x :: r, y :: s => z_eqc x y && z_eqb r s
  | _, _ => false
def z_eqh : List (List zC) → List (List zC) → Bool
  | [], [] => true
  | x :: r, y :: s => z_eqb x y && z_eqh r s
  | _, _ => false
def z_eqn : List Nat → List Nat → Bool
  | [], [] => true
  | x :: r, y :: s => Nat.beq x y && z_eqn r s
  | _, _ => false
def z_eql : zL → zL → Bool
  | [], [] => true
  | x :: r, y :: s => Nat.beq x.1 y.1 && z_eqv x.2 y.2 && z_eql r s
  | _, _ => false
def z_eqS (x y : zS) : Bool := z_eqh x.1 y.1 && z_eqn x.2.1 y.2.1 && Nat.beq x.2.2.1 y.2.2.1 && Nat.beq x.2.2.2 y.2.2.2
def z_eqR (x y : Nat × zV × zK) : Bool := Nat.beq x.1 y.1 && z_eqv x.2.1 y.2.1 && z_eql x.2.2.1 y.2.2.1 && z_eqvs x.2.2.2.1 y.2.2.2.1 && z_eqS x.2.2.2.2 y.2.2.2.2
/-- a branch on what isn't known: both ways are gone, to the same end -/
def zs_fork2 : zF := fun _ a _ _ k => match k.2.1 with
  | y :: x :: st => if z_isI x && z_isI y then (10, a, (0, 0), k.1, st, k.2.2) else zn_bad k
  | _ => zn_bad k
/-- two longs, or a long and an int: what comes isn't told -/
def zs_lun : zF := fun _ _ _ _ k => match k.2.1 with
  | y :: x :: st => if z_isL x && z_isL y then zn_on k.1 ((4, 0) :: st) k.2.2 else zn_bad k
  | _ => zn_bad k
def zs_lsh : zF := fun _ _ _ _ k => match k.2.1 with
  | y :: x :: st => if z_isL x && z_isI y then zn_on k.1 ((4, 0) :: st) k.2.2 else zn_bad k
  | _ => zn_bad k
/-- an int on the stack is forgotten: the one on top, or that below it -/
def zs_forget : zF := fun _ a _ _ k => match a, k.2.1 with
  | 0, x :: st => if z_isI x then zn_on k.1 ((2, 0) :: st) k.2.2 else zn_bad k
  | 1, y :: x :: st => if z_isI x then zn_on k.1 (y :: (2, 0) :: st) k.2.2 else zn_bad k
  | _, _ => zn_bad k
/-- what a row holds is forgotten -/
def z_wide (c : zC) : Option zC := match c.1 with
  | 1 => some (2, c.2.1, c.2.2.1, [(2, 0)])
  | 2 => some (2, c.2.1, c.2.2.1, [(2, 0)])
  | 4 => some (5, c.2.1, c.2.2.1, [(4, 0)])
  | 5 => some (5, c.2.1, c.2.2.1, [(4, 0)])
  | _ => none
def zs_wide : zF := fun _ a _ _ k => match z_cat k.2.2.1 a with
  | some c => (match z_wide c with
    | some c2 => zn_on k.1 k.2.1 (z_with k.2.2 a c2)
    | none => zn_bad k)
  | none => zn_bad k
/-- an if that sets the long a or leaves it, in the ways of its locals' list alike -/
def zs_ifset : zF := fun _ a b _ k => match k.2.1 with
  | x :: st => (match z_get k.1 a, z_get k.1 b with
    | some v, some w => if z_isI x && z_eqv v (4, 0) && z_isI w && Nat.ble (z_cats st) 2 && z_eql (z_set2 k.1 a (4, 0)) k.1 then zn_on k.1 st k.2.2 else zn_bad k
    | _, _ => zn_bad k)
  | _ => zn_bad k
/-- none of the n numbers from d on divides p -/
def z_free (p : Nat) : Nat → Nat → Bool
  | 0, _ => true
  | n + 1, d => if Nat.beq (p % d) 0 then false else z_free p n (d + 1)
/-- the loop that looks for divisors: locals 1 the number, 2 the flag, 3 the divisor -/
def zs_prime : zF := fun _ _ _ _ k => match z_get k.1 1, z_get k.1 2, z_get k.1 3, k.2.1 with
  | some p, some q, some d, [] => if Nat.beq p.1 0 && Nat.ble p.2 1000000 && Nat.ble 2 p.2 && z_eqv q (0, 1) && z_eqv d (0, 2) then zn_on [(1, p), (2, (0, if z_free p.2 (p.2 - 2) 2 then 1 else 0))] [] k.2.2 else zn_bad k
  | _, _, _, _ => zn_bad k
/-- a call that is known: its summary's number, b and c as for a call -/
def zs_sum : zF := fun G a b c k => match z_at G.1.2 a, z_pop (b / 64) k.2.1 [] with
  | some q, some (as, st) => if Nat.ble (z_cats st) 8 && Nat.ble (z_cats as) (b % 64) && z_rcv k.2.2 c as && z_eqvs as q.2.1 && z_eqh k.2.2.1 q.2.2.1 && z_eqn k.2.2.2.1 q.2.2.2.1 then (9, q.1.2 + 1, (0, 0), k.1, q.2.2.2.2.1 :: st, (q.2.2.2.2.2, k.2.2.2)) else zn_bad k
  | _, _ => zn_bad k
/-- an int of 1 .. 1000 -/
def z_mil (e : List (Nat × Nat)) (v : zV) : Bool := match z_rg e v with
  | some q => Nat.blt z_31 q.1 && Nat.ble q.2 2147484648
  | none => false
/-- a loop that is known: its summary's number; its locals 0, 1, 2 -/
def zs_loop : zF := fun G a _ _ k => match z_at G.1.2 a, k.2.1, z_get k.1 0, z_get k.1 1, z_get k.1 2 with
  | some q, [], some v0, some v1, some v2 => if z_eqvs [v0, v1, v2] q.2.1 && z_mil G.2.2.2 v1 && z_eqh k.2.2.1 q.2.2.1 && z_eqn k.2.2.2.1 q.2.2.2.1 && Nat.beq k.2.2.2.2.1 0 && Nat.beq k.2.2.2.2.2 0 then (9, q.1.2 + 1, (0, 0), [(0, q.2.2.2.2.1)], [], (q.2.2.2.2.2, k.2.2.2)) else zn_bad k
  | _, _, _, _, _ => zn_bad k
/-- a loop that is known, its steps told one by one: its summary's number, where its locals 1 and 2 end -/
def zs_piece : zF := fun G a b c k => match z_at G.1.2 a, k.2.1, z_get k.1 0, z_get k.1 1, z_get k.1 2 with
  | some q, [], some v0, some v1, some v2 => if z_eqvs [v0, v1, v2, (k.2.2.2.2.1, k.2.2.2.2.2)] q.2.1 && z_eqh k.2.2.1 q.2.2.1 && z_eqn k.2.2.2.1 q.2.2.2.1 then (9, q.1.2 + 1, (0, 0), [(0, v0), (1, (0, b)), (2, (0, c))], [], k.2.2) else zn_bad k
  | _, _, _, _, _ => zn_bad k
/-- the same with one counter, in local 1, from 0 to b -/
def zs_piece1 : zF := fun G a b _ k => match z_at G.1.2 a, k.2.1, z_get k.1 0, z_get k.1 1 with
  | some q, [], some v0, some v1 => if z_eqvs [v0, v1, (k.2.2.2.2.1, k.2.2.2.2.2)] q.2.1 && z_eqh k.2.2.1 q.2.2.1 && z_eqn k.2.2.2.1 q.2.2.2.1 then (9, q.1.2 + 1, (0, 0), [(0, v0), (1, (0, b))], [], k.2.2) else zn_bad k
  | _, _, _, _ => zn_bad k
/-- here a piece of a method is over -/
def zs_stop : zF := fun _ _ _ _ k => (11, 0, (0, 0), k)
def zs_vret : zF := fun _ _ _ _ k => match k.2.1 with
  | [] => (4, 0, (0, 0), [], [], k.2.2)
  | _ => zn_bad k
def z_tab : List zF := [zs_load, zs_getf, zs_int, zs_call, zs_putf, zs_if .eq, zs_if .ne, zs_goto, zs_iald, zs_iadd, zs_store1, zs_ret, zs_newarray, zs_dup, zs_nop, zs_long, zs_i2l, zs_new, zs_last, zs_aald, zs_icmp .eq, zs_vret, zs_if .lt, zs_if .ge, zs_if .gt, zs_if .le, zs_lald, zs_icmp .le, zs_icmp .ge, zs_icmp .ne, zs_icmp .lt, zs_icmp .gt, zs_iast, zs_aast, zs_lcmp, zs_iinc, zs_imul, zs_isub, zs_anewarray, zs_throw, zs_switch, zs_store2, zs_idiv, zs_ifnull, zs_ifnonnull, zs_multi, zs_bast, zs_alen, zs_i2b, zs_null, zs_ladd, zs_iand, zs_l2i, zs_shift, zs_irem, zs_shift, zs_shift, zs_max, zs_min, zs_clone, zs_pop, zs_lsub, zs_bald, zs_loadI, zs_loadL, zs_storeA, zs_call, zs_cast, zs_bret, zs_fork2, zs_lun, zs_lsh, zs_forget, zs_wide, zs_ifset, zs_prime, zs_sum, zs_loop, zs_stop, zs_zast, zs_piece, zs_piece1]
def z_do (G : zG) (x : zJ) (k : zK) : zN := match z_at z_tab x.2.1 with
  | some f => f G x.2.2.1 x.2.2.2.1 x.2.2.2.2 k
  | none => zn_bad k
def z_sw (me : zP) (a n : Nat) : Nat := match z_at me.2.2 a with
  | some (df, lo, tg) => if Nat.blt n lo then df else (z_at tg (n - lo)).getD df
  | none => 99999
/-- the world in which a callee begins: nothing made yet -/
def z_in (S : zS) : zS := (S.1, S.2.1, 0, 0)
/-- how a run ends: (0 it can't go on, 1 returned v, 2 returned, 3 threw v, 4 wants a cut at v, 5 came to its stop), v, what then stands -/
abbrev zR : Type := Nat × zV × zK
def zr_bad (S : zS) : zR := (0, (0, 0), [], [], S)
/-- no fewer cells and slots than before -/
def z_le (k k2 : zK) : Bool := Nat.ble k.2.2.2.2.1 k2.2.2.2.2.1 && Nat.ble k.2.2.2.2.2 k2.2.2.2.2.2
/-- is it an end at which the callee's caller goes on -/
def z_ok (k : zK) (k2 : zK) (o : zR) : zR := if z_le k k2 then o else zr_bad k.2.2
/-- two ways that come to the same -/
def z_two (o o2 : zR) (S : zS) : zR := if z_eqR o o2 then o else zr_bad S
/-- the machine: methods; fuel, depth, the method, what is left of it -/
def zx (mt : List zP) (G : zG) : Nat → Nat → zP → List zJ → zK → zR
  | 0, _, _, _, k => zr_bad k.2.2
  | _ + 1, _, _, [], k => zr_bad k.2.2
  | f + 1, d, me, x :: r, k => match z_do G x k with
    | (1, _, _, k2) => z_ok k k2 (zx mt G f d me r k2)
    | (2, t, _, k2) => z_ok k k2 (zx mt G f d me (z_drop me.1 t) k2)
    | (3, _, v, k2) => z_ok k k2 (1, v, k2)
    | (4, _, v, k2) => z_ok k k2 (2, v, k2)
    | (5, _, v, k2) => if Nat.ble 8 d then z_ok k k2 (3, v, k2) else zr_bad k.2.2
    | (6, _, v, k2) => (4, v, k2)
    | (7, a, _, ls, st, S) => (match d, z_at mt a with
      | d2 + 1, some m2 => (match zx mt G f d2 m2 m2.1 (ls, [], z_in S) with
        | (1, v, _, _, S2) => z_ok k (k.1, v :: st, z_grow S S2) (zx mt G f d me r (k.1, v :: st, z_grow S S2))
        | (2, _, _, _, S2) => z_ok k (k.1, st, z_grow S S2) (zx mt G f d me r (k.1, st, z_grow S S2))
        | (3, v, _, _, S2) => if Nat.beq x.2.1 3 then (match z_handler me.2.1 x.1 v.1 with
          | some h => z_ok k (k.1, [(7, 0)], z_grow S S2) (zx mt G f d me (z_drop me.1 h) (k.1, [(7, 0)], z_grow S S2))
          | none => if Nat.beq (z_len me.2.1) 0 then z_ok k ([], [], z_grow S S2) (3, v, [], [], z_grow S S2) else zr_bad S) else zr_bad S
        | (4, v, _, _, S2) => (4, v, [], [], S2)
        | _ => zr_bad S)
      | _, _ => zr_bad S)
    | (8, n, v, k2) => z_ok k k2 (zx mt G f d me (z_drop me.1 (z_sw me v.1 n)) k2)
    | (9, n, _, k2) => if Nat.ble n d then z_ok k k2 (zx mt G f d me r k2) else zr_bad k.2.2
    | (10, t, _, k2) => z_ok k k2 (z_two (zx mt G f d me r k2) (zx mt G f d me (z_drop me.1 t) k2) k.2.2)
    | (11, _, _, k2) => z_ok k k2 (5, (x.1, 0), k2)
    | (_, _, _, k2) => zr_bad k2.2.2
