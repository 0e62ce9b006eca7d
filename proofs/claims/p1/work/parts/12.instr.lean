/-! EVERY KIND OF INSTRUCTION (by program) -/
/-- what a method's own run may use -/
def zctx (p : Program) (s : State) (m : MethodId) (args : Array Value) (meth : Method) (c : Code) (own mn : String) (cc : ByteArray) (nL : Nat) (A : Nat → Prop) (W0 : List Cond) : Prop :=
  p.tables.exec = Jvm.exec ∧ c.code = cc ∧ c.maxLocals = nL ∧ s.vm.findClass own = some m.cls ∧ (∀ w ∈ W0, w.before args s = true) ∧ (∀ q, s.heap.size ≤ q → A q) ∧ meth.locks = false ∧ meth.name = mn
section ZR
variable (p : Program) (l : Launch) (e : Env) (R : Room) (s : State) (m : MethodId) (args : Array Value) (below : List Frame) (meth : Method) (c : Code) (Q : State → Prop) (D : va_G) (cl : List vw_C) (A : Nat → Prop) (ft : List FieldType) (ρ : Nat → Int32) (b nL : Nat) (ad0 : List Nat)
/-- what an instruction's outcome says: n the pc behind it -/
def zres (me : zP) (n pc : Nat) (k : zK) (N : zN) : Prop := match N.1 with
  | 1 => N.2.2.2.2.2.2.2.1 ≤ R.cells → N.2.2.2.2.2.2.2.2 ≤ R.slots → zgo p l e R s m args below meth c Q D cl A ft ρ b nL ad0 n N.2.2.2 → zgo p l e R s m args below meth c Q D cl A ft ρ b nL ad0 pc k
  | 2 => (∀ y r, z_drop me.1 N.2.1 = y :: r → zgo p l e R s m args below meth c Q D cl A ft ρ b nL ad0 y.1 N.2.2.2) → zgo p l e R s m args below meth c Q D cl A ft ρ b nL ad0 pc k
  | 8 => (∀ y r, z_drop me.1 (z_sw me N.2.2.1.1 N.2.1) = y :: r → zgo p l e R s m args below meth c Q D cl A ft ρ b nL ad0 y.1 N.2.2.2) → zgo p l e R s m args below meth c Q D cl A ft ρ b nL ad0 pc k
  | 9 => l.stackTraces = false → N.2.1 + 1 ≤ R.frames → 64 * (N.2.1 + 1) ≤ R.locals → N.2.2.2.2.2.2.2.1 ≤ R.cells → N.2.2.2.2.2.2.2.2 ≤ R.slots → zgo p l e R s m args below meth c Q D cl A ft ρ b nL ad0 n N.2.2.2 → zgo p l e R s m args below meth c Q D cl A ft ρ b nL ad0 pc k
  | 10 => zgo p l e R s m args below meth c Q D cl A ft ρ b nL ad0 n N.2.2.2 → (∀ y r, z_drop me.1 N.2.1 = y :: r → zgo p l e R s m args below meth c Q D cl A ft ρ b nL ad0 y.1 N.2.2.2) → zgo p l e R s m args below meth c Q D cl A ft ρ b nL ad0 pc k
  | 11 => N.2.2.2 = k
  | 0 => True
  | 6 => True
  | _ => False
end ZR
/-- an instruction is as the table says: X what is known of the method's start -/
def zIok (X : State → Nat → (Nat → Prop) → (Nat → Int32) → Prop) (own mn : String) (cc : ByteArray) (nL : Nat) (W0 : List Cond) (cl : List vw_C) (ft : List FieldType) (G : zG) (me : zP) (x : zJ) (n : Nat) : Prop :=
  ∀ (p : Program) (l : Launch) (e : Env) (R : Room) (s : State) (m : MethodId) (args : Array Value) (below : List Frame) (meth : Method) (c : Code) (Q : State → Prop) (D : va_G) (A : Nat → Prop) (ρ : Nat → Int32) (b : Nat) (ad0 : List Nat) (k : zK),
    zctx p s m args meth c own mn cc nL A W0 → 1 ≤ R.frames → 64 ≤ R.locals → ze ρ G.2.2.2 → X s b A ρ → zres p l e R s m args below meth c Q D cl A ft ρ b nL ad0 me n x.1 k (z_do G x k)
section ZI
variable {X : State → Nat → (Nat → Prop) → (Nat → Int32) → Prop} {own mn : String} {cc : ByteArray} {nL : Nat} {W0 : List Cond} {cl : List vw_C} {ft : List FieldType} {G : zG} {me : zP} {pc a a1 a2 a3 : Nat}

theorem zi_iconst {i : Int} (hd : decode cc pc = .ok (.iconst i, 1)) (ha : Int32.ofInt i = nI a) : zIok X own mn cc nL W0 cl ft G me (pc, 2, a, a1, a2) (pc + 1) := by
  intro p l e R s m args below meth c Q D A ρ b ad0 k hC hF hL he hX
  obtain ⟨hx, hb, hml, hown, hts, hA, hlocks, hmn⟩ := hC
  show _ → _ → zgo p l e R s m args below meth c Q D cl A ft ρ b nL ad0 _ _ → zgo p l e R s m args below meth c Q D cl A ft ρ b nL ad0 _ _
  intro _ _ kk
  exact zk_push (v := (0, a)) (w := .int (nI a)) (fun _ => rfl) (fun H locs cells slots ls st k9 => lv_iconst hx hb hd ha k9) k kk

theorem zi_bipush {i : Int} (hd : decode cc pc = .ok (.bipush i, 2)) (ha : (Int8.ofInt i).toInt32 = nI a) : zIok X own mn cc nL W0 cl ft G me (pc, 2, a, a1, a2) (pc + 2) := by
  intro p l e R s m args below meth c Q D A ρ b ad0 k hC hF hL he hX
  obtain ⟨hx, hb, hml, hown, hts, hA, hlocks, hmn⟩ := hC
  show _ → _ → zgo p l e R s m args below meth c Q D cl A ft ρ b nL ad0 _ _ → zgo p l e R s m args below meth c Q D cl A ft ρ b nL ad0 _ _
  intro _ _ kk
  exact zk_push (v := (0, a)) (w := .int (nI a)) (fun _ => rfl) (fun H locs cells slots ls st k9 => lv_bipush hx hb hd ha k9) k kk

theorem zi_sipush {i : Int} (hd : decode cc pc = .ok (.sipush i, 3)) (ha : (Int16.ofInt i).toInt32 = nI a) : zIok X own mn cc nL W0 cl ft G me (pc, 2, a, a1, a2) (pc + 3) := by
  intro p l e R s m args below meth c Q D A ρ b ad0 k hC hF hL he hX
  obtain ⟨hx, hb, hml, hown, hts, hA, hlocks, hmn⟩ := hC
  show _ → _ → zgo p l e R s m args below meth c Q D cl A ft ρ b nL ad0 _ _ → zgo p l e R s m args below meth c Q D cl A ft ρ b nL ad0 _ _
  intro _ _ kk
  exact zk_push (v := (0, a)) (w := .int (nI a)) (fun _ => rfl) (fun H locs cells slots ls st k9 => lv_sipush hx hb hd ha k9) k kk

theorem zi_ldc {i : Nat} {v : Int32} (hd : decode cc pc = .ok (.ldc i, 2)) (ha : v = nI a) (hw : Cond.constant own i v ∈ W0) : zIok X own mn cc nL W0 cl ft G me (pc, 2, a, a1, a2) (pc + 2) := by
  intro p l e R s m args below meth c Q D A ρ b ad0 k hC hF hL he hX
  obtain ⟨hx, hb, hml, hown, hts, hA, hlocks, hmn⟩ := hC
  show _ → _ → zgo p l e R s m args below meth c Q D cl A ft ρ b nL ad0 _ _ → zgo p l e R s m args below meth c Q D cl A ft ρ b nL ad0 _ _
  intro _ _ kk
  exact zk_push (v := (0, a)) (w := .int (nI a)) (fun _ => rfl) (fun H locs cells slots ls st k9 => lv_ldc hx hb hown (ha ▸ hts _ hw) hd k9) k kk

theorem zi_lconst {i : Fin 2} (hd : decode cc pc = .ok (.lconst i, 1)) (ha : Int64.ofNat (i : Nat) = lN a) : zIok X own mn cc nL W0 cl ft G me (pc, 15, a, a1, a2) (pc + 1) := by
  intro p l e R s m args below meth c Q D A ρ b ad0 k hC hF hL he hX
  obtain ⟨hx, hb, hml, hown, hts, hA, hlocks, hmn⟩ := hC
  show _ → _ → zgo p l e R s m args below meth c Q D cl A ft ρ b nL ad0 _ _ → zgo p l e R s m args below meth c Q D cl A ft ρ b nL ad0 _ _
  intro _ _ kk
  exact zk_push (v := (3, a)) (w := .long (lN a)) (fun _ => rfl) (fun H locs cells slots ls st k9 => lv_lconst hx hb hd ha k9) k kk

theorem zi_ldc2 {i : Nat} {v : Int64} (hd : decode cc pc = .ok (.ldc2_w i, 3)) (ha : v = lN a) (hw : Cond.constantLong own i v ∈ W0) : zIok X own mn cc nL W0 cl ft G me (pc, 15, a, a1, a2) (pc + 3) := by
  intro p l e R s m args below meth c Q D A ρ b ad0 k hC hF hL he hX
  obtain ⟨hx, hb, hml, hown, hts, hA, hlocks, hmn⟩ := hC
  show _ → _ → zgo p l e R s m args below meth c Q D cl A ft ρ b nL ad0 _ _ → zgo p l e R s m args below meth c Q D cl A ft ρ b nL ad0 _ _
  intro _ _ kk
  exact zk_push (v := (3, a)) (w := .long (lN a)) (fun _ => rfl) (fun H locs cells slots ls st k9 => lv_ldc2 hx hb hown (ha ▸ hts _ hw) hd k9) k kk

theorem zi_null (hd : decode cc pc = .ok (.aconst_null, 1)) : zIok X own mn cc nL W0 cl ft G me (pc, 49, a, a1, a2) (pc + 1) := by
  intro p l e R s m args below meth c Q D A ρ b ad0 k hC hF hL he hX
  obtain ⟨hx, hb, hml, hown, hts, hA, hlocks, hmn⟩ := hC
  show _ → _ → zgo p l e R s m args below meth c Q D cl A ft ρ b nL ad0 _ _ → zgo p l e R s m args below meth c Q D cl A ft ρ b nL ad0 _ _
  intro _ _ kk
  exact zk_push (v := (5, 0)) (w := .null) (fun _ => rfl) (fun H locs cells slots ls st k9 => lv_null hx hb hd k9) k kk

/-- a reference, or null -/
def z_isA (v : zV) : Bool := Nat.beq v.1 5 || Nat.beq v.1 6 || Nat.beq v.1 7 || Nat.beq v.1 8
theorem zv_A {ρ : Nat → Int32} {b : Nat} {ad : List Nat} {v : zV} {w : Value} (h : zv ρ b ad v w) (hl : z_isL v = false) (hi : z_isI v = false) : w = .null ∨ ∃ x, w = .ref x := by
  obtain ⟨t, n⟩ := v
  match t, h with
  | 0, _ => exact absurd hi (by simp [z_isI, Nat.ble])
  | 1, _ => exact absurd hi (by simp [z_isI, Nat.ble])
  | 2, _ => exact absurd hi (by simp [z_isI, Nat.ble])
  | 3, _ => exact absurd hl (by simp [z_isL])
  | 4, _ => exact absurd hl (by simp [z_isL])
  | 5, h => exact Or.inl h
  | 6, h => obtain ⟨x, -, h⟩ := h; exact Or.inr ⟨x, h⟩
  | 7, h => exact Or.inr h
  | 8, h => exact Or.inr ⟨_, h⟩
  | 9, _ => exact absurd hi (by simp [z_isI])
  | 10, _ => exact absurd hl (by simp [z_isL])
  | _ + 11, h => exact h.elim

theorem zi_iload (hd : decode cc pc = .ok (.iload a, 2)) : zIok X own mn cc nL W0 cl ft G me (pc, 63, a, a1, a2) (pc + 2) := by
  intro p l e R s m args below meth c Q D A ρ b ad0 k hC hF hL he hX
  obtain ⟨hx, hb, hml, hown, hts, hA, hlocks, hmn⟩ := hC
  show zres p l e R s m args below meth c Q D cl A ft ρ b nL ad0 me _ _ k (match z_get k.1 a with
    | some v => if z_isI v then zn_on k.1 (v :: k.2.1) k.2.2 else zn_bad k
    | none => zn_bad k)
  cases hg : z_get k.1 a with
  | none => exact trivial
  | some v =>
    by_cases ht : z_isI v = true
    · dsimp only
      rw [if_pos ht]
      intro _ _ kk
      refine zk_load k hg (fun w => ∃ x, w = .int x) (fun ad w h => zv_I h ht) (fun H locs cells slots ls st w hw hl9 k9 => ?_) kk
      obtain ⟨x, rfl⟩ := hw
      exact lv_iload hx hb hd hl9 k9
    · dsimp only
      rw [if_neg ht]
      exact trivial

theorem zi_iload_n {i : Fin 4} (hd : decode cc pc = .ok (.iload_n i, 1)) (hi : (i : Nat) = a) : zIok X own mn cc nL W0 cl ft G me (pc, 63, a, a1, a2) (pc + 1) := by
  intro p l e R s m args below meth c Q D A ρ b ad0 k hC hF hL he hX
  obtain ⟨hx, hb, hml, hown, hts, hA, hlocks, hmn⟩ := hC
  show zres p l e R s m args below meth c Q D cl A ft ρ b nL ad0 me _ _ k (match z_get k.1 a with
    | some v => if z_isI v then zn_on k.1 (v :: k.2.1) k.2.2 else zn_bad k
    | none => zn_bad k)
  cases hg : z_get k.1 a with
  | none => exact trivial
  | some v =>
    by_cases ht : z_isI v = true
    · dsimp only
      rw [if_pos ht]
      intro _ _ kk
      refine zk_load k hg (fun w => ∃ x, w = .int x) (fun ad w h => zv_I h ht) (fun H locs cells slots ls st w hw hl9 k9 => ?_) kk
      obtain ⟨x, rfl⟩ := hw
      exact lv_iload_n hx hb hd hi hl9 k9
    · dsimp only
      rw [if_neg ht]
      exact trivial

theorem zi_lload (hd : decode cc pc = .ok (.lload a, 2)) : zIok X own mn cc nL W0 cl ft G me (pc, 64, a, a1, a2) (pc + 2) := by
  intro p l e R s m args below meth c Q D A ρ b ad0 k hC hF hL he hX
  obtain ⟨hx, hb, hml, hown, hts, hA, hlocks, hmn⟩ := hC
  show zres p l e R s m args below meth c Q D cl A ft ρ b nL ad0 me _ _ k (match z_get k.1 a with
    | some v => if z_isL v then zn_on k.1 (v :: k.2.1) k.2.2 else zn_bad k
    | none => zn_bad k)
  cases hg : z_get k.1 a with
  | none => exact trivial
  | some v =>
    by_cases ht : z_isL v = true
    · dsimp only
      rw [if_pos ht]
      intro _ _ kk
      refine zk_load k hg (fun w => ∃ x, w = .long x) (fun ad w h => zv_L h ht) (fun H locs cells slots ls st w hw hl9 k9 => ?_) kk
      obtain ⟨x, rfl⟩ := hw
      exact lv_lload hx hb hd hl9 k9
    · dsimp only
      rw [if_neg ht]
      exact trivial

theorem zi_lload_n {i : Fin 4} (hd : decode cc pc = .ok (.lload_n i, 1)) (hi : (i : Nat) = a) : zIok X own mn cc nL W0 cl ft G me (pc, 64, a, a1, a2) (pc + 1) := by
  intro p l e R s m args below meth c Q D A ρ b ad0 k hC hF hL he hX
  obtain ⟨hx, hb, hml, hown, hts, hA, hlocks, hmn⟩ := hC
  show zres p l e R s m args below meth c Q D cl A ft ρ b nL ad0 me _ _ k (match z_get k.1 a with
    | some v => if z_isL v then zn_on k.1 (v :: k.2.1) k.2.2 else zn_bad k
    | none => zn_bad k)
  cases hg : z_get k.1 a with
  | none => exact trivial
  | some v =>
    by_cases ht : z_isL v = true
    · dsimp only
      rw [if_pos ht]
      intro _ _ kk
      refine zk_load k hg (fun w => ∃ x, w = .long x) (fun ad w h => zv_L h ht) (fun H locs cells slots ls st w hw hl9 k9 => ?_) kk
      obtain ⟨x, rfl⟩ := hw
      exact lv_lload_n hx hb hd hi hl9 k9
    · dsimp only
      rw [if_neg ht]
      exact trivial

theorem zi_aload (hd : decode cc pc = .ok (.aload a, 2)) : zIok X own mn cc nL W0 cl ft G me (pc, 0, a, a1, a2) (pc + 2) := by
  intro p l e R s m args below meth c Q D A ρ b ad0 k hC hF hL he hX
  obtain ⟨hx, hb, hml, hown, hts, hA, hlocks, hmn⟩ := hC
  show zres p l e R s m args below meth c Q D cl A ft ρ b nL ad0 me _ _ k (match z_get k.1 a with
    | some v => if z_isL v || z_isI v then zn_bad k else zn_on k.1 (v :: k.2.1) k.2.2
    | none => zn_bad k)
  cases hg : z_get k.1 a with
  | none => exact trivial
  | some v =>
    by_cases ht : (z_isL v || z_isI v) = true
    · dsimp only
      rw [if_pos ht]
      exact trivial
    · dsimp only
      rw [if_neg ht]
      simp only [Bool.or_eq_true, not_or, Bool.not_eq_true] at ht
      intro _ _ kk
      refine zk_load k hg (fun w => w = .null ∨ ∃ x, w = .ref x) (fun ad w h => zv_A h ht.1 ht.2) (fun H locs cells slots ls st w hw hl9 k9 => ?_) kk
      rcases hw with rfl | ⟨x, rfl⟩
      · exact lv_aloadN hx hb hd hl9 k9
      · exact lv_aload hx hb hd hl9 k9

theorem zi_aload_n {i : Fin 4} (hd : decode cc pc = .ok (.aload_n i, 1)) (hi : (i : Nat) = a) : zIok X own mn cc nL W0 cl ft G me (pc, 0, a, a1, a2) (pc + 1) := by
  intro p l e R s m args below meth c Q D A ρ b ad0 k hC hF hL he hX
  obtain ⟨hx, hb, hml, hown, hts, hA, hlocks, hmn⟩ := hC
  show zres p l e R s m args below meth c Q D cl A ft ρ b nL ad0 me _ _ k (match z_get k.1 a with
    | some v => if z_isL v || z_isI v then zn_bad k else zn_on k.1 (v :: k.2.1) k.2.2
    | none => zn_bad k)
  cases hg : z_get k.1 a with
  | none => exact trivial
  | some v =>
    by_cases ht : (z_isL v || z_isI v) = true
    · dsimp only
      rw [if_pos ht]
      exact trivial
    · dsimp only
      rw [if_neg ht]
      simp only [Bool.or_eq_true, not_or, Bool.not_eq_true] at ht
      intro _ _ kk
      refine zk_load k hg (fun w => w = .null ∨ ∃ x, w = .ref x) (fun ad w h => zv_A h ht.1 ht.2) (fun H locs cells slots ls st w hw hl9 k9 => ?_) kk
      rcases hw with rfl | ⟨x, rfl⟩
      · exact lv_aload_nN hx hb hd hi hl9 k9
      · exact lv_aload_n hx hb hd hi hl9 k9

theorem zi_istore (hd : decode cc pc = .ok (.istore a, 2)) (hn : a < nL) : zIok X own mn cc nL W0 cl ft G me (pc, 10, a, a1, a2) (pc + 2) := by
  intro p l e R s m args below meth c Q D A ρ b ad0 k hC hF hL he hX
  obtain ⟨hx, hb, hml, hown, hts, hA, hlocks, hmn⟩ := hC
  obtain ⟨ls0, st0, S⟩ := k
  match st0 with
  | [] => exact trivial
  | v :: st0 =>
    show zres p l e R s m args below meth c Q D cl A ft ρ b nL ad0 me _ _ _ (if z_isI v then zn_on (z_set1 ls0 a v) st0 S else zn_bad (ls0, v :: st0, S))
    by_cases ht : z_isI v = true
    · rw [if_pos ht]
      intro _ _ kk
      refine zk_store1 (fun w => ∃ x, w = .int x) (fun ad w h => zv_I h ht) (fun H locs cells slots ls st w lv hw hl9 k9 => ?_) kk
      obtain ⟨x, rfl⟩ := hw
      exact lv_istore hx hb hd hl9 hn rfl k9
    · rw [if_neg ht]
      exact trivial
theorem zi_astore (hd : decode cc pc = .ok (.astore a, 2)) (hn : a < nL) : zIok X own mn cc nL W0 cl ft G me (pc, 65, a, a1, a2) (pc + 2) := by
  intro p l e R s m args below meth c Q D A ρ b ad0 k hC hF hL he hX
  obtain ⟨hx, hb, hml, hown, hts, hA, hlocks, hmn⟩ := hC
  obtain ⟨ls0, st0, S⟩ := k
  match st0 with
  | [] => exact trivial
  | v :: st0 =>
    show zres p l e R s m args below meth c Q D cl A ft ρ b nL ad0 me _ _ _ (if z_isL v || z_isI v then zn_bad (ls0, v :: st0, S) else zn_on (z_set1 ls0 a v) st0 S)
    by_cases ht : (z_isL v || z_isI v) = true
    · rw [if_pos ht]
      exact trivial
    · rw [if_neg ht]
      simp only [Bool.or_eq_true, not_or, Bool.not_eq_true] at ht
      intro _ _ kk
      refine zk_store1 (fun w => w = .null ∨ ∃ x, w = .ref x) (fun ad w h => zv_A h ht.1 ht.2) (fun H locs cells slots ls st w lv hw hl9 k9 => ?_) kk
      rcases hw with rfl | ⟨x, rfl⟩
      · exact lv_astoreN hx hb hd hl9 hn rfl k9
      · exact lv_astore hx hb hd hl9 hn rfl k9
theorem zi_lstore (hd : decode cc pc = .ok (.lstore a, 2)) (hn : a + 1 < nL) : zIok X own mn cc nL W0 cl ft G me (pc, 41, a, a1, a2) (pc + 2) := by
  intro p l e R s m args below meth c Q D A ρ b ad0 k hC hF hL he hX
  obtain ⟨hx, hb, hml, hown, hts, hA, hlocks, hmn⟩ := hC
  obtain ⟨ls0, st0, S⟩ := k
  match st0 with
  | [] => exact trivial
  | v :: st0 =>
    show zres p l e R s m args below meth c Q D cl A ft ρ b nL ad0 me _ _ _ (if z_isL v then zn_on (z_set2 ls0 a v) st0 S else zn_bad (ls0, v :: st0, S))
    by_cases ht : z_isL v = true
    · rw [if_pos ht]
      intro _ _ kk
      refine zk_store2 (fun w => ∃ x, w = .long x) (fun ad w h => zv_L h ht) (fun H locs cells slots ls st w lv hw hl9 k9 => ?_) kk
      obtain ⟨x, rfl⟩ := hw
      exact lv_lstore hx hb hd hl9 hn rfl k9
    · rw [if_neg ht]
      exact trivial

theorem zi_istore_n {i : Fin 4} (hd : decode cc pc = .ok (.istore_n i, 1)) (hi : (i : Nat) = a) (hn : a < nL) : zIok X own mn cc nL W0 cl ft G me (pc, 10, a, a1, a2) (pc + 1) := by
  intro p l e R s m args below meth c Q D A ρ b ad0 k hC hF hL he hX
  obtain ⟨hx, hb, hml, hown, hts, hA, hlocks, hmn⟩ := hC
  obtain ⟨ls0, st0, S⟩ := k
  match st0 with
  | [] => exact trivial
  | v :: st0 =>
    show zres p l e R s m args below meth c Q D cl A ft ρ b nL ad0 me _ _ _ (if z_isI v then zn_on (z_set1 ls0 a v) st0 S else zn_bad (ls0, v :: st0, S))
    by_cases ht : z_isI v = true
    · rw [if_pos ht]
      intro _ _ kk
      refine zk_store1 (fun w => ∃ x, w = .int x) (fun ad w h => zv_I h ht) (fun H locs cells slots ls st w lv hw hl9 k9 => ?_) kk
      obtain ⟨x, rfl⟩ := hw
      exact lv_istore_n hx hb hd hi hl9 hn rfl k9
    · rw [if_neg ht]
      exact trivial
theorem zi_astore_n {i : Fin 4} (hd : decode cc pc = .ok (.astore_n i, 1)) (hi : (i : Nat) = a) (hn : a < nL) : zIok X own mn cc nL W0 cl ft G me (pc, 65, a, a1, a2) (pc + 1) := by
  intro p l e R s m args below meth c Q D A ρ b ad0 k hC hF hL he hX
  obtain ⟨hx, hb, hml, hown, hts, hA, hlocks, hmn⟩ := hC
  obtain ⟨ls0, st0, S⟩ := k
  match st0 with
  | [] => exact trivial
  | v :: st0 =>
    show zres p l e R s m args below meth c Q D cl A ft ρ b nL ad0 me _ _ _ (if z_isL v || z_isI v then zn_bad (ls0, v :: st0, S) else zn_on (z_set1 ls0 a v) st0 S)
    by_cases ht : (z_isL v || z_isI v) = true
    · rw [if_pos ht]
      exact trivial
    · rw [if_neg ht]
      simp only [Bool.or_eq_true, not_or, Bool.not_eq_true] at ht
      intro _ _ kk
      refine zk_store1 (fun w => w = .null ∨ ∃ x, w = .ref x) (fun ad w h => zv_A h ht.1 ht.2) (fun H locs cells slots ls st w lv hw hl9 k9 => ?_) kk
      rcases hw with rfl | ⟨x, rfl⟩
      · exact lv_astore_nN hx hb hd hi hl9 hn rfl k9
      · exact lv_astore_n hx hb hd hi hl9 hn rfl k9
theorem zi_lstore_n {i : Fin 4} (hd : decode cc pc = .ok (.lstore_n i, 1)) (hi : (i : Nat) = a) (hn : a + 1 < nL) : zIok X own mn cc nL W0 cl ft G me (pc, 41, a, a1, a2) (pc + 1) := by
  intro p l e R s m args below meth c Q D A ρ b ad0 k hC hF hL he hX
  obtain ⟨hx, hb, hml, hown, hts, hA, hlocks, hmn⟩ := hC
  obtain ⟨ls0, st0, S⟩ := k
  match st0 with
  | [] => exact trivial
  | v :: st0 =>
    show zres p l e R s m args below meth c Q D cl A ft ρ b nL ad0 me _ _ _ (if z_isL v then zn_on (z_set2 ls0 a v) st0 S else zn_bad (ls0, v :: st0, S))
    by_cases ht : z_isL v = true
    · rw [if_pos ht]
      intro _ _ kk
      refine zk_store2 (fun w => ∃ x, w = .long x) (fun ad w h => zv_L h ht) (fun H locs cells slots ls st w lv hw hl9 k9 => ?_) kk
      obtain ⟨x, rfl⟩ := hw
      exact lv_lstore_n hx hb hd hi hl9 hn rfl k9
    · rw [if_neg ht]
      exact trivial

theorem zi_iadd (hd : decode cc pc = .ok (.iadd, 1)) : zIok X own mn cc nL W0 cl ft G me (pc, 9, a, a1, a2) (pc + 1) := by
  intro p l e R s m args below meth c Q D A ρ b ad0 k hC hF hL he hX
  obtain ⟨hx, hb, hml, hown, hts, hA, hlocks, hmn⟩ := hC
  obtain ⟨ls0, st0, S⟩ := k
  match st0 with
  | [] => exact trivial
  | [_] => exact trivial
  | y :: x :: st0 =>
    show zres p l e R s m args below meth c Q D cl A ft ρ b nL ad0 me _ _ _ (if z_isI x && z_isI y then zn_on ls0 (z_addR G.2.2.2 x y :: st0) S else zn_bad (ls0, y :: x :: st0, S))
    by_cases ht : (z_isI x && z_isI y) = true
    · rw [if_pos ht]
      simp only [Bool.and_eq_true] at ht
      intro _ _ kk
      refine zk_2 (fun w w2 => match w, w2 with
        | .int i, .int j => .int (i + j)
        | _, _ => .null) (fun w w2 => ∃ i j, w = .int i ∧ w2 = .int j) (fun ad w w2 h h2 => ?_) (fun H locs cells slots ls st w w2 hw k9 => ?_) kk
      · obtain ⟨i, rfl⟩ := zv_I h ht.1
        obtain ⟨j, rfl⟩ := zv_I h2 ht.2
        exact ⟨⟨i, j, rfl, rfl⟩, z_addR_ok he h h2⟩
      · obtain ⟨i, j, rfl, rfl⟩ := hw
        exact lv_iadd hx hb hd k9
    · rw [if_neg ht]
      exact trivial

theorem zi_isub (hd : decode cc pc = .ok (.isub, 1)) : zIok X own mn cc nL W0 cl ft G me (pc, 37, a, a1, a2) (pc + 1) := by
  intro p l e R s m args below meth c Q D A ρ b ad0 k hC hF hL he hX
  obtain ⟨hx, hb, hml, hown, hts, hA, hlocks, hmn⟩ := hC
  obtain ⟨ls0, st0, S⟩ := k
  match st0 with
  | [] => exact trivial
  | [_] => exact trivial
  | y :: x :: st0 =>
    show zres p l e R s m args below meth c Q D cl A ft ρ b nL ad0 me _ _ _ (if z_isI x && z_isI y then zn_on ls0 (z_subR G.2.2.2 x y :: st0) S else zn_bad (ls0, y :: x :: st0, S))
    by_cases ht : (z_isI x && z_isI y) = true
    · rw [if_pos ht]
      simp only [Bool.and_eq_true] at ht
      intro _ _ kk
      refine zk_2 (fun w w2 => match w, w2 with
        | .int i, .int j => .int (i - j)
        | _, _ => .null) (fun w w2 => ∃ i j, w = .int i ∧ w2 = .int j) (fun ad w w2 h h2 => ?_) (fun H locs cells slots ls st w w2 hw k9 => ?_) kk
      · obtain ⟨i, rfl⟩ := zv_I h ht.1
        obtain ⟨j, rfl⟩ := zv_I h2 ht.2
        exact ⟨⟨i, j, rfl, rfl⟩, z_subR_ok he h h2⟩
      · obtain ⟨i, j, rfl, rfl⟩ := hw
        exact lv_isub hx hb hd k9
    · rw [if_neg ht]
      exact trivial

theorem zi_imul (hd : decode cc pc = .ok (.imul, 1)) : zIok X own mn cc nL W0 cl ft G me (pc, 36, a, a1, a2) (pc + 1) := by
  intro p l e R s m args below meth c Q D A ρ b ad0 k hC hF hL he hX
  obtain ⟨hx, hb, hml, hown, hts, hA, hlocks, hmn⟩ := hC
  obtain ⟨ls0, st0, S⟩ := k
  match st0 with
  | [] => exact trivial
  | [_] => exact trivial
  | y :: x :: st0 =>
    show zres p l e R s m args below meth c Q D cl A ft ρ b nL ad0 me _ _ _ (if z_isI x && z_isI y then zn_on ls0 (z_i2 G.2.2.2 z_mul x y :: st0) S else zn_bad (ls0, y :: x :: st0, S))
    by_cases ht : (z_isI x && z_isI y) = true
    · rw [if_pos ht]
      simp only [Bool.and_eq_true] at ht
      intro _ _ kk
      refine zk_2 (fun w w2 => match w, w2 with
        | .int i, .int j => .int (i * j)
        | _, _ => .null) (fun w w2 => ∃ i j, w = .int i ∧ w2 = .int j) (fun ad w w2 h h2 => ?_) (fun H locs cells slots ls st w w2 hw k9 => ?_) kk
      · obtain ⟨i, rfl⟩ := zv_I h ht.1
        obtain ⟨j, rfl⟩ := zv_I h2 ht.2
        exact ⟨⟨i, j, rfl, rfl⟩, z_i2_ok (op := fun a b => a * b) z_mul_ok he h h2⟩
      · obtain ⟨i, j, rfl, rfl⟩ := hw
        exact lv_imul hx hb hd k9
    · rw [if_neg ht]
      exact trivial

theorem zi_iand (hd : decode cc pc = .ok (.iand, 1)) : zIok X own mn cc nL W0 cl ft G me (pc, 51, a, a1, a2) (pc + 1) := by
  intro p l e R s m args below meth c Q D A ρ b ad0 k hC hF hL he hX
  obtain ⟨hx, hb, hml, hown, hts, hA, hlocks, hmn⟩ := hC
  obtain ⟨ls0, st0, S⟩ := k
  match st0 with
  | [] => exact trivial
  | [_] => exact trivial
  | y :: x :: st0 =>
    show zres p l e R s m args below meth c Q D cl A ft ρ b nL ad0 me _ _ _ (if z_isI x && z_isI y then zn_on ls0 (z_and G.2.2.2 x y :: st0) S else zn_bad (ls0, y :: x :: st0, S))
    by_cases ht : (z_isI x && z_isI y) = true
    · rw [if_pos ht]
      simp only [Bool.and_eq_true] at ht
      intro _ _ kk
      refine zk_2 (fun w w2 => match w, w2 with
        | .int i, .int j => .int (i &&& j)
        | _, _ => .null) (fun w w2 => ∃ i j, w = .int i ∧ w2 = .int j) (fun ad w w2 h h2 => ?_) (fun H locs cells slots ls st w w2 hw k9 => ?_) kk
      · obtain ⟨i, rfl⟩ := zv_I h ht.1
        obtain ⟨j, rfl⟩ := zv_I h2 ht.2
        exact ⟨⟨i, j, rfl, rfl⟩, z_and_ok he h h2⟩
      · obtain ⟨i, j, rfl, rfl⟩ := hw
        exact lv_iand hx hb hd k9
    · rw [if_neg ht]
      exact trivial

theorem zi_ishl (hd : decode cc pc = .ok (.ishl, 1)) : zIok X own mn cc nL W0 cl ft G me (pc, 56, a, a1, a2) (pc + 1) := by
  intro p l e R s m args below meth c Q D A ρ b ad0 k hC hF hL he hX
  obtain ⟨hx, hb, hml, hown, hts, hA, hlocks, hmn⟩ := hC
  obtain ⟨ls0, st0, S⟩ := k
  match st0 with
  | [] => exact trivial
  | [_] => exact trivial
  | y :: x :: st0 =>
    show zres p l e R s m args below meth c Q D cl A ft ρ b nL ad0 me _ _ _ (if z_isI x && z_isI y then zn_on ls0 (((2, 0) : zV) :: st0) S else zn_bad (ls0, y :: x :: st0, S))
    by_cases ht : (z_isI x && z_isI y) = true
    · rw [if_pos ht]
      simp only [Bool.and_eq_true] at ht
      intro _ _ kk
      refine zk_2 (fun w w2 => match w, w2 with
        | .int i, .int j => .int (i <<< (j &&& 31))
        | _, _ => .null) (fun w w2 => ∃ i j, w = .int i ∧ w2 = .int j) (fun ad w w2 h h2 => ?_) (fun H locs cells slots ls st w w2 hw k9 => ?_) kk
      · obtain ⟨i, rfl⟩ := zv_I h ht.1
        obtain ⟨j, rfl⟩ := zv_I h2 ht.2
        exact ⟨⟨i, j, rfl, rfl⟩, zv_some⟩
      · obtain ⟨i, j, rfl, rfl⟩ := hw
        exact lv_ishl hx hb hd k9
    · rw [if_neg ht]
      exact trivial

theorem zi_ishr (hd : decode cc pc = .ok (.ishr, 1)) : zIok X own mn cc nL W0 cl ft G me (pc, 55, a, a1, a2) (pc + 1) := by
  intro p l e R s m args below meth c Q D A ρ b ad0 k hC hF hL he hX
  obtain ⟨hx, hb, hml, hown, hts, hA, hlocks, hmn⟩ := hC
  obtain ⟨ls0, st0, S⟩ := k
  match st0 with
  | [] => exact trivial
  | [_] => exact trivial
  | y :: x :: st0 =>
    show zres p l e R s m args below meth c Q D cl A ft ρ b nL ad0 me _ _ _ (if z_isI x && z_isI y then zn_on ls0 (((2, 0) : zV) :: st0) S else zn_bad (ls0, y :: x :: st0, S))
    by_cases ht : (z_isI x && z_isI y) = true
    · rw [if_pos ht]
      simp only [Bool.and_eq_true] at ht
      intro _ _ kk
      refine zk_2 (fun w w2 => match w, w2 with
        | .int i, .int j => .int (i >>> (j &&& 31))
        | _, _ => .null) (fun w w2 => ∃ i j, w = .int i ∧ w2 = .int j) (fun ad w w2 h h2 => ?_) (fun H locs cells slots ls st w w2 hw k9 => ?_) kk
      · obtain ⟨i, rfl⟩ := zv_I h ht.1
        obtain ⟨j, rfl⟩ := zv_I h2 ht.2
        exact ⟨⟨i, j, rfl, rfl⟩, zv_some⟩
      · obtain ⟨i, j, rfl, rfl⟩ := hw
        exact lv_ishr hx hb hd k9
    · rw [if_neg ht]
      exact trivial

theorem zi_iushr (hd : decode cc pc = .ok (.iushr, 1)) : zIok X own mn cc nL W0 cl ft G me (pc, 53, a, a1, a2) (pc + 1) := by
  intro p l e R s m args below meth c Q D A ρ b ad0 k hC hF hL he hX
  obtain ⟨hx, hb, hml, hown, hts, hA, hlocks, hmn⟩ := hC
  obtain ⟨ls0, st0, S⟩ := k
  match st0 with
  | [] => exact trivial
  | [_] => exact trivial
  | y :: x :: st0 =>
    show zres p l e R s m args below meth c Q D cl A ft ρ b nL ad0 me _ _ _ (if z_isI x && z_isI y then zn_on ls0 (((2, 0) : zV) :: st0) S else zn_bad (ls0, y :: x :: st0, S))
    by_cases ht : (z_isI x && z_isI y) = true
    · rw [if_pos ht]
      simp only [Bool.and_eq_true] at ht
      intro _ _ kk
      refine zk_2 (fun w w2 => match w, w2 with
        | .int i, .int j => .int ((i.toUInt32 >>> (j.toUInt32 &&& Int32.toUInt32 31)).toInt32)
        | _, _ => .null) (fun w w2 => ∃ i j, w = .int i ∧ w2 = .int j) (fun ad w w2 h h2 => ?_) (fun H locs cells slots ls st w w2 hw k9 => ?_) kk
      · obtain ⟨i, rfl⟩ := zv_I h ht.1
        obtain ⟨j, rfl⟩ := zv_I h2 ht.2
        exact ⟨⟨i, j, rfl, rfl⟩, zv_some⟩
      · obtain ⟨i, j, rfl, rfl⟩ := hw
        exact lv_iushr hx hb hd rfl k9
    · rw [if_neg ht]
      exact trivial

theorem zi_idiv (hd : decode cc pc = .ok (.idiv, 1)) : zIok X own mn cc nL W0 cl ft G me (pc, 42, a, a1, a2) (pc + 1) := by
  intro p l e R s m args below meth c Q D A ρ b ad0 k hC hF hL he hX
  obtain ⟨hx, hb, hml, hown, hts, hA, hlocks, hmn⟩ := hC
  obtain ⟨ls0, st0, S⟩ := k
  match st0 with
  | [] => exact trivial
  | [_] => exact trivial
  | y :: x :: st0 =>
    show zres p l e R s m args below meth c Q D cl A ft ρ b nL ad0 me _ _ _ (if z_isI x && z_pos y then zn_on ls0 (z_div G.2.2.2 x y :: st0) S else zn_bad (ls0, y :: x :: st0, S))
    by_cases ht : (z_isI x && z_pos y) = true
    · rw [if_pos ht]
      simp only [Bool.and_eq_true] at ht
      intro _ _ kk
      have hyI : z_isI y = true := by
        have h9 := ht.2
        simp only [z_pos, Bool.and_eq_true] at h9
        have e0 := Nat.eq_of_beq_eq_true h9.1.1
        simp [z_isI, e0, Nat.ble]
      refine zk_2 (fun w w2 => match w, w2 with
        | .int i, .int j => .int (i / j)
        | _, _ => .null) (fun w w2 => ∃ i j, w = .int i ∧ w2 = .int j ∧ ¬ j = 0) (fun ad w w2 h h2 => ?_) (fun H locs cells slots ls st w w2 hw k9 => ?_) kk
      · obtain ⟨i, rfl⟩ := zv_I h ht.1
        obtain ⟨j, rfl⟩ := zv_I h2 hyI
        have h9 := z_div_ok he ht.2 h h2
        exact ⟨⟨i, j, rfl, rfl, h9.1⟩, h9.2.1⟩
      · obtain ⟨i, j, rfl, rfl, hj⟩ := hw
        exact lv_idiv hx hb hd hj k9
    · rw [if_neg ht]
      exact trivial

theorem zi_irem (hd : decode cc pc = .ok (.irem, 1)) : zIok X own mn cc nL W0 cl ft G me (pc, 54, a, a1, a2) (pc + 1) := by
  intro p l e R s m args below meth c Q D A ρ b ad0 k hC hF hL he hX
  obtain ⟨hx, hb, hml, hown, hts, hA, hlocks, hmn⟩ := hC
  obtain ⟨ls0, st0, S⟩ := k
  match st0 with
  | [] => exact trivial
  | [_] => exact trivial
  | y :: x :: st0 =>
    show zres p l e R s m args below meth c Q D cl A ft ρ b nL ad0 me _ _ _ (if z_isI x && z_pos y then zn_on ls0 (z_rem G.2.2.2 x y :: st0) S else zn_bad (ls0, y :: x :: st0, S))
    by_cases ht : (z_isI x && z_pos y) = true
    · rw [if_pos ht]
      simp only [Bool.and_eq_true] at ht
      intro _ _ kk
      have hyI : z_isI y = true := by
        have h9 := ht.2
        simp only [z_pos, Bool.and_eq_true] at h9
        have e0 := Nat.eq_of_beq_eq_true h9.1.1
        simp [z_isI, e0, Nat.ble]
      refine zk_2 (fun w w2 => match w, w2 with
        | .int i, .int j => .int (i - i / j * j)
        | _, _ => .null) (fun w w2 => ∃ i j, w = .int i ∧ w2 = .int j ∧ ¬ j = 0) (fun ad w w2 h h2 => ?_) (fun H locs cells slots ls st w w2 hw k9 => ?_) kk
      · obtain ⟨i, rfl⟩ := zv_I h ht.1
        obtain ⟨j, rfl⟩ := zv_I h2 hyI
        have h9 := z_div_ok he ht.2 h h2
        exact ⟨⟨i, j, rfl, rfl, h9.1⟩, h9.2.2⟩
      · obtain ⟨i, j, rfl, rfl, hj⟩ := hw
        exact lv_irem hx hb hd hj k9
    · rw [if_neg ht]
      exact trivial

theorem zi_ladd (hd : decode cc pc = .ok (.ladd, 1)) : zIok X own mn cc nL W0 cl ft G me (pc, 50, a, a1, a2) (pc + 1) := by
  intro p l e R s m args below meth c Q D A ρ b ad0 k hC hF hL he hX
  obtain ⟨hx, hb, hml, hown, hts, hA, hlocks, hmn⟩ := hC
  obtain ⟨ls0, st0, S⟩ := k
  match st0 with
  | [] => exact trivial
  | [_] => exact trivial
  | y :: x :: st0 =>
    show zres p l e R s m args below meth c Q D cl A ft ρ b nL ad0 me _ _ _ (if z_isL x && z_isL y then zn_on ls0 (z_l2 z_ladd x y :: st0) S else zn_bad (ls0, y :: x :: st0, S))
    by_cases ht : (z_isL x && z_isL y) = true
    · rw [if_pos ht]
      simp only [Bool.and_eq_true] at ht
      intro _ _ kk
      refine zk_2 (fun w w2 => match w, w2 with
        | .long i, .long j => .long (i + j)
        | _, _ => .null) (fun w w2 => ∃ i j, w = .long i ∧ w2 = .long j) (fun ad w w2 h h2 => ?_) (fun H locs cells slots ls st w w2 hw k9 => ?_) kk
      · obtain ⟨i, rfl⟩ := zv_L h ht.1
        obtain ⟨j, rfl⟩ := zv_L h2 ht.2
        exact ⟨⟨i, j, rfl, rfl⟩, z_l2_ok (op := fun a b => a + b) (fun a b => lN_add a b) h h2⟩
      · obtain ⟨i, j, rfl, rfl⟩ := hw
        exact lv_ladd hx hb hd k9
    · rw [if_neg ht]
      exact trivial

theorem zi_lsub (hd : decode cc pc = .ok (.lsub, 1)) : zIok X own mn cc nL W0 cl ft G me (pc, 61, a, a1, a2) (pc + 1) := by
  intro p l e R s m args below meth c Q D A ρ b ad0 k hC hF hL he hX
  obtain ⟨hx, hb, hml, hown, hts, hA, hlocks, hmn⟩ := hC
  obtain ⟨ls0, st0, S⟩ := k
  match st0 with
  | [] => exact trivial
  | [_] => exact trivial
  | y :: x :: st0 =>
    show zres p l e R s m args below meth c Q D cl A ft ρ b nL ad0 me _ _ _ (if z_isL x && z_isL y then zn_on ls0 (z_l2 z_lsub x y :: st0) S else zn_bad (ls0, y :: x :: st0, S))
    by_cases ht : (z_isL x && z_isL y) = true
    · rw [if_pos ht]
      simp only [Bool.and_eq_true] at ht
      intro _ _ kk
      refine zk_2 (fun w w2 => match w, w2 with
        | .long i, .long j => .long (i - j)
        | _, _ => .null) (fun w w2 => ∃ i j, w = .long i ∧ w2 = .long j) (fun ad w w2 h h2 => ?_) (fun H locs cells slots ls st w w2 hw k9 => ?_) kk
      · obtain ⟨i, rfl⟩ := zv_L h ht.1
        obtain ⟨j, rfl⟩ := zv_L h2 ht.2
        exact ⟨⟨i, j, rfl, rfl⟩, z_l2_ok (op := fun a b => a - b) z_lsub_ok h h2⟩
      · obtain ⟨i, j, rfl, rfl⟩ := hw
        exact lv_lsub hx hb hd k9
    · rw [if_neg ht]
      exact trivial

theorem zi_i2l (hd : decode cc pc = .ok (.i2l, 1)) : zIok X own mn cc nL W0 cl ft G me (pc, 16, a, a1, a2) (pc + 1) := by
  intro p l e R s m args below meth c Q D A ρ b ad0 k hC hF hL he hX
  obtain ⟨hx, hb, hml, hown, hts, hA, hlocks, hmn⟩ := hC
  obtain ⟨ls0, st0, S⟩ := k
  match st0 with
  | [] => exact trivial
  | x :: st0 =>
    show zres p l e R s m args below meth c Q D cl A ft ρ b nL ad0 me _ _ _ (if z_isI x then zn_on ls0 (z_long G.2.2.2 x :: st0) S else zn_bad (ls0, x :: st0, S))
    by_cases ht : z_isI x = true
    · rw [if_pos ht]
      intro _ _ kk
      refine zk_1 (fun w => match w with
        | .int i => .long (i.toInt64)
        | _ => .null) (fun w => ∃ i, w = .int i) (fun ad w h => ?_) (fun H locs cells slots ls st w hw k9 => ?_) kk
      · obtain ⟨i, rfl⟩ := zv_I h ht
        exact ⟨⟨i, rfl⟩, z_long_ok he h⟩
      · obtain ⟨i, rfl⟩ := hw
        exact lv_i2l hx hb hd rfl k9
    · rw [if_neg ht]
      exact trivial

theorem zi_l2i (hd : decode cc pc = .ok (.l2i, 1)) : zIok X own mn cc nL W0 cl ft G me (pc, 52, a, a1, a2) (pc + 1) := by
  intro p l e R s m args below meth c Q D A ρ b ad0 k hC hF hL he hX
  obtain ⟨hx, hb, hml, hown, hts, hA, hlocks, hmn⟩ := hC
  obtain ⟨ls0, st0, S⟩ := k
  match st0 with
  | [] => exact trivial
  | x :: st0 =>
    show zres p l e R s m args below meth c Q D cl A ft ρ b nL ad0 me _ _ _ (if z_isL x then zn_on ls0 (z_l2i x :: st0) S else zn_bad (ls0, x :: st0, S))
    by_cases ht : z_isL x = true
    · rw [if_pos ht]
      intro _ _ kk
      refine zk_1 (fun w => match w with
        | .long i => .int (i.toInt32)
        | _ => .null) (fun w => ∃ i, w = .long i) (fun ad w h => ?_) (fun H locs cells slots ls st w hw k9 => ?_) kk
      · obtain ⟨i, rfl⟩ := zv_L h ht
        exact ⟨⟨i, rfl⟩, z_l2i_ok ht h⟩
      · obtain ⟨i, rfl⟩ := hw
        exact lv_l2i hx hb hd rfl k9
    · rw [if_neg ht]
      exact trivial

theorem zi_i2b (hd : decode cc pc = .ok (.i2b, 1)) : zIok X own mn cc nL W0 cl ft G me (pc, 48, a, a1, a2) (pc + 1) := by
  intro p l e R s m args below meth c Q D A ρ b ad0 k hC hF hL he hX
  obtain ⟨hx, hb, hml, hown, hts, hA, hlocks, hmn⟩ := hC
  obtain ⟨ls0, st0, S⟩ := k
  match st0 with
  | [] => exact trivial
  | x :: st0 =>
    show zres p l e R s m args below meth c Q D cl A ft ρ b nL ad0 me _ _ _ (if z_isI x then zn_on ls0 (z_byte G.2.2.2 x :: st0) S else zn_bad (ls0, x :: st0, S))
    by_cases ht : z_isI x = true
    · rw [if_pos ht]
      intro _ _ kk
      refine zk_1 (fun w => match w with
        | .int i => .int (i.toInt8.toInt32)
        | _ => .null) (fun w => ∃ i, w = .int i) (fun ad w h => ?_) (fun H locs cells slots ls st w hw k9 => ?_) kk
      · obtain ⟨i, rfl⟩ := zv_I h ht
        exact ⟨⟨i, rfl⟩, zv_some⟩
      · obtain ⟨i, rfl⟩ := hw
        exact lv_i2b hx hb hd rfl k9
    · rw [if_neg ht]
      exact trivial

theorem zi_dup (hd : decode cc pc = .ok (.dup, 1)) : zIok X own mn cc nL W0 cl ft G me (pc, 13, a, a1, a2) (pc + 1) := by
  intro p l e R s m args below meth c Q D A ρ b ad0 k hC hF hL he hX
  obtain ⟨hx, hb, hml, hown, hts, hA, hlocks, hmn⟩ := hC
  obtain ⟨ls0, st0, S⟩ := k
  match st0 with
  | [] => exact trivial
  | v :: st0 =>
    show zres p l e R s m args below meth c Q D cl A ft ρ b nL ad0 me _ _ _ (if z_isL v then zn_bad (ls0, v :: st0, S) else zn_on ls0 (v :: v :: st0) S)
    by_cases ht : z_isL v = true
    · rw [if_pos ht]
      exact trivial
    · rw [if_neg ht]
      intro _ _ kk
      exact zk_dup (by simpa using ht) (fun H locs cells slots ls st w hw k9 => lv_dup hx hb hd hw k9) kk
theorem zi_goto {off : Int} {t : Nat} (hd : decode cc pc = .ok (.goto off, 3)) (ht : (pc : Int) + off = (t : Int)) (hj : (z_drop me.1 a).head?.map (fun y => y.1) = some t) : zIok X own mn cc nL W0 cl ft G me (pc, 7, a, a1, a2) (pc + 3) := by
  intro p l e R s m args below meth c Q D A ρ b ad0 k hC hF hL he hX
  obtain ⟨hx, hb, hml, hown, hts, hA, hlocks, hmn⟩ := hC
  show (∀ y r, z_drop me.1 a = y :: r → zgo p l e R s m args below meth c Q D cl A ft ρ b nL ad0 y.1 _) → zgo p l e R s m args below meth c Q D cl A ft ρ b nL ad0 _ _
  intro kk
  cases hq : z_drop me.1 a with
  | nil => rw [hq] at hj; cases hj
  | cons y r =>
    rw [hq] at hj
    have hj := Option.some.inj hj
    exact zk_nop (fun H locs cells slots ls st k9 => lv_goto hx hb hd ht k9) _ (by have := kk y r hq; rw [← hj]; exact this)

theorem zi_icmp_eq {off : Int} {t : Nat} (hd : decode cc pc = .ok (.if_icmp .eq off, 3)) (ht : (pc : Int) + off = (t : Int)) (hj : (z_drop me.1 a).head?.map (fun y => y.1) = some t) : zIok X own mn cc nL W0 cl ft G me (pc, 20, a, a1, a2) (pc + 3) := by
  intro p l e R s m args below meth c Q D A ρ b ad0 k hC hF hL he hX
  obtain ⟨hx, hb, hml, hown, hts, hA, hlocks, hmn⟩ := hC
  obtain ⟨ls0, st0, S⟩ := k
  match st0 with
  | [] => exact trivial
  | [_] => exact trivial
  | y :: x :: st0 =>
    show zres p l e R s m args below meth c Q D cl A ft ρ b nL ad0 me _ _ _ (match z_rg G.2.2.2 x, z_rg G.2.2.2 y with
      | some u, some w => z_br (z_cond .eq u w) a (z_cut .eq u w x y) ls0 st0 S
      | _, _ => zn_bad (ls0, y :: x :: st0, S))
    cases hu : z_rg G.2.2.2 x with
    | none => exact trivial
    | some u =>
      cases hw : z_rg G.2.2.2 y with
      | none => exact trivial
      | some w =>
        have hr : z_cmpRow p l e R s m args below meth c Q pc (pc + 3) t .eq := fun H locs cells slots ls st x y k1 k2 => lv_icmp_eq hx hb hd ht k1 k2
        dsimp only
        match hc : z_cond .eq u w with
        | 0 =>
          intro _ _ kk
          exact zk_icmp0 he hu hw hc hr kk
        | 1 =>
          intro kk
          cases hq : z_drop me.1 a with
          | nil => rw [hq] at hj; cases hj
          | cons z r =>
            rw [hq] at hj
            have hj := Option.some.inj hj
            exact zk_icmp1 he hu hw hc hr (by have := kk z r hq; rw [← hj]; exact this)
        | _ + 2 => exact trivial
theorem zi_if_eq {off : Int} {t : Nat} (hd : decode cc pc = .ok (.ifCond .eq off, 3)) (ht : (pc : Int) + off = (t : Int)) (hj : (z_drop me.1 a).head?.map (fun y => y.1) = some t) : zIok X own mn cc nL W0 cl ft G me (pc, 5, a, a1, a2) (pc + 3) := by
  intro p l e R s m args below meth c Q D A ρ b ad0 k hC hF hL he hX
  obtain ⟨hx, hb, hml, hown, hts, hA, hlocks, hmn⟩ := hC
  obtain ⟨ls0, st0, S⟩ := k
  match st0 with
  | [] => exact trivial
  | x :: st0 =>
    show zres p l e R s m args below meth c Q D cl A ft ρ b nL ad0 me _ _ _ (match z_rg G.2.2.2 x with
      | some u => z_br (z_cond .eq u (z_31, z_31)) a (z_cut .eq u (z_31, z_31) x (0, 0)) ls0 st0 S
      | none => zn_bad (ls0, x :: st0, S))
    cases hu : z_rg G.2.2.2 x with
    | none => exact trivial
    | some u =>
      have hr : z_ifRow p l e R s m args below meth c Q pc (pc + 3) t .eq := fun H locs cells slots ls st x k1 k2 => lv_if_eq hx hb hd ht k1 k2
      dsimp only
      match hc : z_cond .eq u (z_31, z_31) with
      | 0 =>
        intro _ _ kk
        exact zk_if0 he hu hc hr kk
      | 1 =>
        intro kk
        cases hq : z_drop me.1 a with
        | nil => rw [hq] at hj; cases hj
        | cons z r =>
          rw [hq] at hj
          have hj := Option.some.inj hj
          exact zk_if1 he hu hc hr (by have := kk z r hq; rw [← hj]; exact this)
      | _ + 2 => exact trivial

theorem zi_icmp_ne {off : Int} {t : Nat} (hd : decode cc pc = .ok (.if_icmp .ne off, 3)) (ht : (pc : Int) + off = (t : Int)) (hj : (z_drop me.1 a).head?.map (fun y => y.1) = some t) : zIok X own mn cc nL W0 cl ft G me (pc, 29, a, a1, a2) (pc + 3) := by
  intro p l e R s m args below meth c Q D A ρ b ad0 k hC hF hL he hX
  obtain ⟨hx, hb, hml, hown, hts, hA, hlocks, hmn⟩ := hC
  obtain ⟨ls0, st0, S⟩ := k
  match st0 with
  | [] => exact trivial
  | [_] => exact trivial
  | y :: x :: st0 =>
    show zres p l e R s m args below meth c Q D cl A ft ρ b nL ad0 me _ _ _ (match z_rg G.2.2.2 x, z_rg G.2.2.2 y with
      | some u, some w => z_br (z_cond .ne u w) a (z_cut .ne u w x y) ls0 st0 S
      | _, _ => zn_bad (ls0, y :: x :: st0, S))
    cases hu : z_rg G.2.2.2 x with
    | none => exact trivial
    | some u =>
      cases hw : z_rg G.2.2.2 y with
      | none => exact trivial
      | some w =>
        have hr : z_cmpRow p l e R s m args below meth c Q pc (pc + 3) t .ne := fun H locs cells slots ls st x y k1 k2 => lv_icmp_ne hx hb hd ht k1 (fun h => k2 (fun z => z h))
        dsimp only
        match hc : z_cond .ne u w with
        | 0 =>
          intro _ _ kk
          exact zk_icmp0 he hu hw hc hr kk
        | 1 =>
          intro kk
          cases hq : z_drop me.1 a with
          | nil => rw [hq] at hj; cases hj
          | cons z r =>
            rw [hq] at hj
            have hj := Option.some.inj hj
            exact zk_icmp1 he hu hw hc hr (by have := kk z r hq; rw [← hj]; exact this)
        | _ + 2 => exact trivial
theorem zi_if_ne {off : Int} {t : Nat} (hd : decode cc pc = .ok (.ifCond .ne off, 3)) (ht : (pc : Int) + off = (t : Int)) (hj : (z_drop me.1 a).head?.map (fun y => y.1) = some t) : zIok X own mn cc nL W0 cl ft G me (pc, 6, a, a1, a2) (pc + 3) := by
  intro p l e R s m args below meth c Q D A ρ b ad0 k hC hF hL he hX
  obtain ⟨hx, hb, hml, hown, hts, hA, hlocks, hmn⟩ := hC
  obtain ⟨ls0, st0, S⟩ := k
  match st0 with
  | [] => exact trivial
  | x :: st0 =>
    show zres p l e R s m args below meth c Q D cl A ft ρ b nL ad0 me _ _ _ (match z_rg G.2.2.2 x with
      | some u => z_br (z_cond .ne u (z_31, z_31)) a (z_cut .ne u (z_31, z_31) x (0, 0)) ls0 st0 S
      | none => zn_bad (ls0, x :: st0, S))
    cases hu : z_rg G.2.2.2 x with
    | none => exact trivial
    | some u =>
      have hr : z_ifRow p l e R s m args below meth c Q pc (pc + 3) t .ne := fun H locs cells slots ls st x k1 k2 => lv_if_ne hx hb hd ht k1 (fun h => k2 (fun z => z h))
      dsimp only
      match hc : z_cond .ne u (z_31, z_31) with
      | 0 =>
        intro _ _ kk
        exact zk_if0 he hu hc hr kk
      | 1 =>
        intro kk
        cases hq : z_drop me.1 a with
        | nil => rw [hq] at hj; cases hj
        | cons z r =>
          rw [hq] at hj
          have hj := Option.some.inj hj
          exact zk_if1 he hu hc hr (by have := kk z r hq; rw [← hj]; exact this)
      | _ + 2 => exact trivial

theorem zi_icmp_lt {off : Int} {t : Nat} (hd : decode cc pc = .ok (.if_icmp .lt off, 3)) (ht : (pc : Int) + off = (t : Int)) (hj : (z_drop me.1 a).head?.map (fun y => y.1) = some t) : zIok X own mn cc nL W0 cl ft G me (pc, 30, a, a1, a2) (pc + 3) := by
  intro p l e R s m args below meth c Q D A ρ b ad0 k hC hF hL he hX
  obtain ⟨hx, hb, hml, hown, hts, hA, hlocks, hmn⟩ := hC
  obtain ⟨ls0, st0, S⟩ := k
  match st0 with
  | [] => exact trivial
  | [_] => exact trivial
  | y :: x :: st0 =>
    show zres p l e R s m args below meth c Q D cl A ft ρ b nL ad0 me _ _ _ (match z_rg G.2.2.2 x, z_rg G.2.2.2 y with
      | some u, some w => z_br (z_cond .lt u w) a (z_cut .lt u w x y) ls0 st0 S
      | _, _ => zn_bad (ls0, y :: x :: st0, S))
    cases hu : z_rg G.2.2.2 x with
    | none => exact trivial
    | some u =>
      cases hw : z_rg G.2.2.2 y with
      | none => exact trivial
      | some w =>
        have hr : z_cmpRow p l e R s m args below meth c Q pc (pc + 3) t .lt := fun H locs cells slots ls st x y k1 k2 => lv_icmp_lt hx hb hd ht k1 k2
        dsimp only
        match hc : z_cond .lt u w with
        | 0 =>
          intro _ _ kk
          exact zk_icmp0 he hu hw hc hr kk
        | 1 =>
          intro kk
          cases hq : z_drop me.1 a with
          | nil => rw [hq] at hj; cases hj
          | cons z r =>
            rw [hq] at hj
            have hj := Option.some.inj hj
            exact zk_icmp1 he hu hw hc hr (by have := kk z r hq; rw [← hj]; exact this)
        | _ + 2 => exact trivial
theorem zi_if_lt {off : Int} {t : Nat} (hd : decode cc pc = .ok (.ifCond .lt off, 3)) (ht : (pc : Int) + off = (t : Int)) (hj : (z_drop me.1 a).head?.map (fun y => y.1) = some t) : zIok X own mn cc nL W0 cl ft G me (pc, 22, a, a1, a2) (pc + 3) := by
  intro p l e R s m args below meth c Q D A ρ b ad0 k hC hF hL he hX
  obtain ⟨hx, hb, hml, hown, hts, hA, hlocks, hmn⟩ := hC
  obtain ⟨ls0, st0, S⟩ := k
  match st0 with
  | [] => exact trivial
  | x :: st0 =>
    show zres p l e R s m args below meth c Q D cl A ft ρ b nL ad0 me _ _ _ (match z_rg G.2.2.2 x with
      | some u => z_br (z_cond .lt u (z_31, z_31)) a (z_cut .lt u (z_31, z_31) x (0, 0)) ls0 st0 S
      | none => zn_bad (ls0, x :: st0, S))
    cases hu : z_rg G.2.2.2 x with
    | none => exact trivial
    | some u =>
      have hr : z_ifRow p l e R s m args below meth c Q pc (pc + 3) t .lt := fun H locs cells slots ls st x k1 k2 => lv_if_lt hx hb hd ht k1 k2
      dsimp only
      match hc : z_cond .lt u (z_31, z_31) with
      | 0 =>
        intro _ _ kk
        exact zk_if0 he hu hc hr kk
      | 1 =>
        intro kk
        cases hq : z_drop me.1 a with
        | nil => rw [hq] at hj; cases hj
        | cons z r =>
          rw [hq] at hj
          have hj := Option.some.inj hj
          exact zk_if1 he hu hc hr (by have := kk z r hq; rw [← hj]; exact this)
      | _ + 2 => exact trivial

theorem zi_icmp_ge {off : Int} {t : Nat} (hd : decode cc pc = .ok (.if_icmp .ge off, 3)) (ht : (pc : Int) + off = (t : Int)) (hj : (z_drop me.1 a).head?.map (fun y => y.1) = some t) : zIok X own mn cc nL W0 cl ft G me (pc, 28, a, a1, a2) (pc + 3) := by
  intro p l e R s m args below meth c Q D A ρ b ad0 k hC hF hL he hX
  obtain ⟨hx, hb, hml, hown, hts, hA, hlocks, hmn⟩ := hC
  obtain ⟨ls0, st0, S⟩ := k
  match st0 with
  | [] => exact trivial
  | [_] => exact trivial
  | y :: x :: st0 =>
    show zres p l e R s m args below meth c Q D cl A ft ρ b nL ad0 me _ _ _ (match z_rg G.2.2.2 x, z_rg G.2.2.2 y with
      | some u, some w => z_br (z_cond .ge u w) a (z_cut .ge u w x y) ls0 st0 S
      | _, _ => zn_bad (ls0, y :: x :: st0, S))
    cases hu : z_rg G.2.2.2 x with
    | none => exact trivial
    | some u =>
      cases hw : z_rg G.2.2.2 y with
      | none => exact trivial
      | some w =>
        have hr : z_cmpRow p l e R s m args below meth c Q pc (pc + 3) t .ge := fun H locs cells slots ls st x y k1 k2 => lv_icmp_ge hx hb hd ht k1 k2
        dsimp only
        match hc : z_cond .ge u w with
        | 0 =>
          intro _ _ kk
          exact zk_icmp0 he hu hw hc hr kk
        | 1 =>
          intro kk
          cases hq : z_drop me.1 a with
          | nil => rw [hq] at hj; cases hj
          | cons z r =>
            rw [hq] at hj
            have hj := Option.some.inj hj
            exact zk_icmp1 he hu hw hc hr (by have := kk z r hq; rw [← hj]; exact this)
        | _ + 2 => exact trivial
theorem zi_if_ge {off : Int} {t : Nat} (hd : decode cc pc = .ok (.ifCond .ge off, 3)) (ht : (pc : Int) + off = (t : Int)) (hj : (z_drop me.1 a).head?.map (fun y => y.1) = some t) : zIok X own mn cc nL W0 cl ft G me (pc, 23, a, a1, a2) (pc + 3) := by
  intro p l e R s m args below meth c Q D A ρ b ad0 k hC hF hL he hX
  obtain ⟨hx, hb, hml, hown, hts, hA, hlocks, hmn⟩ := hC
  obtain ⟨ls0, st0, S⟩ := k
  match st0 with
  | [] => exact trivial
  | x :: st0 =>
    show zres p l e R s m args below meth c Q D cl A ft ρ b nL ad0 me _ _ _ (match z_rg G.2.2.2 x with
      | some u => z_br (z_cond .ge u (z_31, z_31)) a (z_cut .ge u (z_31, z_31) x (0, 0)) ls0 st0 S
      | none => zn_bad (ls0, x :: st0, S))
    cases hu : z_rg G.2.2.2 x with
    | none => exact trivial
    | some u =>
      have hr : z_ifRow p l e R s m args below meth c Q pc (pc + 3) t .ge := fun H locs cells slots ls st x k1 k2 => lv_if_ge hx hb hd ht k1 k2
      dsimp only
      match hc : z_cond .ge u (z_31, z_31) with
      | 0 =>
        intro _ _ kk
        exact zk_if0 he hu hc hr kk
      | 1 =>
        intro kk
        cases hq : z_drop me.1 a with
        | nil => rw [hq] at hj; cases hj
        | cons z r =>
          rw [hq] at hj
          have hj := Option.some.inj hj
          exact zk_if1 he hu hc hr (by have := kk z r hq; rw [← hj]; exact this)
      | _ + 2 => exact trivial

theorem zi_icmp_gt {off : Int} {t : Nat} (hd : decode cc pc = .ok (.if_icmp .gt off, 3)) (ht : (pc : Int) + off = (t : Int)) (hj : (z_drop me.1 a).head?.map (fun y => y.1) = some t) : zIok X own mn cc nL W0 cl ft G me (pc, 31, a, a1, a2) (pc + 3) := by
  intro p l e R s m args below meth c Q D A ρ b ad0 k hC hF hL he hX
  obtain ⟨hx, hb, hml, hown, hts, hA, hlocks, hmn⟩ := hC
  obtain ⟨ls0, st0, S⟩ := k
  match st0 with
  | [] => exact trivial
  | [_] => exact trivial
  | y :: x :: st0 =>
    show zres p l e R s m args below meth c Q D cl A ft ρ b nL ad0 me _ _ _ (match z_rg G.2.2.2 x, z_rg G.2.2.2 y with
      | some u, some w => z_br (z_cond .gt u w) a (z_cut .gt u w x y) ls0 st0 S
      | _, _ => zn_bad (ls0, y :: x :: st0, S))
    cases hu : z_rg G.2.2.2 x with
    | none => exact trivial
    | some u =>
      cases hw : z_rg G.2.2.2 y with
      | none => exact trivial
      | some w =>
        have hr : z_cmpRow p l e R s m args below meth c Q pc (pc + 3) t .gt := fun H locs cells slots ls st x y k1 k2 => lv_icmp_gt hx hb hd ht k1 k2
        dsimp only
        match hc : z_cond .gt u w with
        | 0 =>
          intro _ _ kk
          exact zk_icmp0 he hu hw hc hr kk
        | 1 =>
          intro kk
          cases hq : z_drop me.1 a with
          | nil => rw [hq] at hj; cases hj
          | cons z r =>
            rw [hq] at hj
            have hj := Option.some.inj hj
            exact zk_icmp1 he hu hw hc hr (by have := kk z r hq; rw [← hj]; exact this)
        | _ + 2 => exact trivial
theorem zi_if_gt {off : Int} {t : Nat} (hd : decode cc pc = .ok (.ifCond .gt off, 3)) (ht : (pc : Int) + off = (t : Int)) (hj : (z_drop me.1 a).head?.map (fun y => y.1) = some t) : zIok X own mn cc nL W0 cl ft G me (pc, 24, a, a1, a2) (pc + 3) := by
  intro p l e R s m args below meth c Q D A ρ b ad0 k hC hF hL he hX
  obtain ⟨hx, hb, hml, hown, hts, hA, hlocks, hmn⟩ := hC
  obtain ⟨ls0, st0, S⟩ := k
  match st0 with
  | [] => exact trivial
  | x :: st0 =>
    show zres p l e R s m args below meth c Q D cl A ft ρ b nL ad0 me _ _ _ (match z_rg G.2.2.2 x with
      | some u => z_br (z_cond .gt u (z_31, z_31)) a (z_cut .gt u (z_31, z_31) x (0, 0)) ls0 st0 S
      | none => zn_bad (ls0, x :: st0, S))
    cases hu : z_rg G.2.2.2 x with
    | none => exact trivial
    | some u =>
      have hr : z_ifRow p l e R s m args below meth c Q pc (pc + 3) t .gt := fun H locs cells slots ls st x k1 k2 => lv_if_gt hx hb hd ht k1 k2
      dsimp only
      match hc : z_cond .gt u (z_31, z_31) with
      | 0 =>
        intro _ _ kk
        exact zk_if0 he hu hc hr kk
      | 1 =>
        intro kk
        cases hq : z_drop me.1 a with
        | nil => rw [hq] at hj; cases hj
        | cons z r =>
          rw [hq] at hj
          have hj := Option.some.inj hj
          exact zk_if1 he hu hc hr (by have := kk z r hq; rw [← hj]; exact this)
      | _ + 2 => exact trivial

theorem zi_icmp_le {off : Int} {t : Nat} (hd : decode cc pc = .ok (.if_icmp .le off, 3)) (ht : (pc : Int) + off = (t : Int)) (hj : (z_drop me.1 a).head?.map (fun y => y.1) = some t) : zIok X own mn cc nL W0 cl ft G me (pc, 27, a, a1, a2) (pc + 3) := by
  intro p l e R s m args below meth c Q D A ρ b ad0 k hC hF hL he hX
  obtain ⟨hx, hb, hml, hown, hts, hA, hlocks, hmn⟩ := hC
  obtain ⟨ls0, st0, S⟩ := k
  match st0 with
  | [] => exact trivial
  | [_] => exact trivial
  | y :: x :: st0 =>
    show zres p l e R s m args below meth c Q D cl A ft ρ b nL ad0 me _ _ _ (match z_rg G.2.2.2 x, z_rg G.2.2.2 y with
      | some u, some w => z_br (z_cond .le u w) a (z_cut .le u w x y) ls0 st0 S
      | _, _ => zn_bad (ls0, y :: x :: st0, S))
    cases hu : z_rg G.2.2.2 x with
    | none => exact trivial
    | some u =>
      cases hw : z_rg G.2.2.2 y with
      | none => exact trivial
      | some w =>
        have hr : z_cmpRow p l e R s m args below meth c Q pc (pc + 3) t .le := fun H locs cells slots ls st x y k1 k2 => lv_icmp_le hx hb hd ht k1 k2
        dsimp only
        match hc : z_cond .le u w with
        | 0 =>
          intro _ _ kk
          exact zk_icmp0 he hu hw hc hr kk
        | 1 =>
          intro kk
          cases hq : z_drop me.1 a with
          | nil => rw [hq] at hj; cases hj
          | cons z r =>
            rw [hq] at hj
            have hj := Option.some.inj hj
            exact zk_icmp1 he hu hw hc hr (by have := kk z r hq; rw [← hj]; exact this)
        | _ + 2 => exact trivial
theorem zi_if_le {off : Int} {t : Nat} (hd : decode cc pc = .ok (.ifCond .le off, 3)) (ht : (pc : Int) + off = (t : Int)) (hj : (z_drop me.1 a).head?.map (fun y => y.1) = some t) : zIok X own mn cc nL W0 cl ft G me (pc, 25, a, a1, a2) (pc + 3) := by
  intro p l e R s m args below meth c Q D A ρ b ad0 k hC hF hL he hX
  obtain ⟨hx, hb, hml, hown, hts, hA, hlocks, hmn⟩ := hC
  obtain ⟨ls0, st0, S⟩ := k
  match st0 with
  | [] => exact trivial
  | x :: st0 =>
    show zres p l e R s m args below meth c Q D cl A ft ρ b nL ad0 me _ _ _ (match z_rg G.2.2.2 x with
      | some u => z_br (z_cond .le u (z_31, z_31)) a (z_cut .le u (z_31, z_31) x (0, 0)) ls0 st0 S
      | none => zn_bad (ls0, x :: st0, S))
    cases hu : z_rg G.2.2.2 x with
    | none => exact trivial
    | some u =>
      have hr : z_ifRow p l e R s m args below meth c Q pc (pc + 3) t .le := fun H locs cells slots ls st x k1 k2 => lv_if_le hx hb hd ht k1 k2
      dsimp only
      match hc : z_cond .le u (z_31, z_31) with
      | 0 =>
        intro _ _ kk
        exact zk_if0 he hu hc hr kk
      | 1 =>
        intro kk
        cases hq : z_drop me.1 a with
        | nil => rw [hq] at hj; cases hj
        | cons z r =>
          rw [hq] at hj
          have hj := Option.some.inj hj
          exact zk_if1 he hu hc hr (by have := kk z r hq; rw [← hj]; exact this)
      | _ + 2 => exact trivial

end ZI
