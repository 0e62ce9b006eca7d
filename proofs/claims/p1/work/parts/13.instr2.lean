/-! FIELDS, ROWS AND THE REST OF THE KINDS (by program) -/
section ZJ
variable {X : State → Nat → (Nat → Prop) → (Nat → Int32) → Prop} {own mn : String} {cc : ByteArray} {nL : Nat} {W0 : List Cond} {cl : List vw_C} {ft : List FieldType} {G : zG} {me : zP} {pc a a1 a2 a3 : Nat}

set_option maxRecDepth 100000 in
theorem zi_lcmp (hd : decode cc pc = .ok (.lcmp, 1)) : zIok X own mn cc nL W0 cl ft G me (pc, 34, a, a1, a2) (pc + 1) := by
  intro p l e R s m args below meth c Q D A ρ b ad0 k hC hF hL he hX
  obtain ⟨hx, hb, hml, hown, hts, hA, hlocks, hmn⟩ := hC
  obtain ⟨ls0, st0, S⟩ := k
  match st0 with
  | [] => exact trivial
  | [_] => exact trivial
  | y :: x :: st0 =>
    show zres p l e R s m args below meth c Q D cl A ft ρ b nL ad0 me _ _ _ (if Nat.beq x.1 3 && Nat.beq y.1 3 then zn_on ls0 ((0, z_lcmp ((x.2 + z_63) % z_64) ((y.2 + z_63) % z_64)) :: st0) S else if Nat.beq x.1 10 && Nat.beq y.1 10 && Nat.beq x.2 y.2 then zn_on ls0 ((0, 0) :: st0) S else zn_bad (ls0, y :: x :: st0, S))
    by_cases ht : (Nat.beq x.1 3 && Nat.beq y.1 3) = true
    · rw [if_pos ht]
      simp only [Bool.and_eq_true] at ht
      generalize hz : z_lcmp ((x.2 + z_63) % z_64) ((y.2 + z_63) % z_64) = z
      intro _ _ kk
      refine zk_2 (fun w w2 => match w, w2 with
        | .long i, .long j => .int (lg_cmp i j)
        | _, _ => .null) (fun w w2 => ∃ i j, w = .long i ∧ w2 = .long j) (fun ad w w2 h h2 => ?_) (fun H locs cells slots ls st w w2 hw k9 => ?_) kk
      · obtain ⟨t1, n1⟩ := x
        obtain ⟨t2, n2⟩ := y
        have e1 : t1 = 3 := Nat.eq_of_beq_eq_true ht.1
        have e2 : t2 = 3 := Nat.eq_of_beq_eq_true ht.2
        subst e1
        subst e2
        have g1 : w = .long (lN n1) := h
        have g2 : w2 = .long (lN n2) := h2
        subst g1
        subst g2
        dsimp only at hz
        exact ⟨⟨_, _, rfl, rfl⟩, show Value.int (lg_cmp (lN n1) (lN n2)) = .int (nI z) by rw [z_lcmp_ok, hz]⟩
      · obtain ⟨i, j, rfl, rfl⟩ := hw
        exact W.lcmp hx hb hd k9
    · rw [if_neg ht]
      by_cases ht2 : (Nat.beq x.1 10 && Nat.beq y.1 10 && Nat.beq x.2 y.2) = true
      · rw [if_pos ht2]
        simp only [Bool.and_eq_true] at ht2
        intro _ _ kk
        refine zk_2 (fun w w2 => match w, w2 with
          | .long i, .long j => .int (lg_cmp i j)
          | _, _ => .null) (fun w w2 => ∃ i j, w = .long i ∧ w2 = .long j) (fun ad w w2 h h2 => ?_) (fun H locs cells slots ls st w w2 hw k9 => ?_) kk
        · obtain ⟨t1, n1⟩ := x
          obtain ⟨t2, n2⟩ := y
          have e1 : t1 = 10 := Nat.eq_of_beq_eq_true ht2.1.1
          have e2 : t2 = 10 := Nat.eq_of_beq_eq_true ht2.1.2
          have e3 : n1 = n2 := Nat.eq_of_beq_eq_true ht2.2
          subst e1 e2 e3
          have g1 : w = .long (ρ n1).toInt64 := h
          have g2 : w2 = .long (ρ n1).toInt64 := h2
          subst g1 g2
          refine ⟨⟨_, _, rfl, rfl⟩, ?_⟩
          show Value.int (lg_cmp (ρ n1).toInt64 (ρ n1).toInt64) = .int (nI 0)
          congr 1
          unfold lg_cmp
          rw [if_neg (by simp [Int64.lt_iff_toInt_lt]), if_pos rfl]
          rfl
        · obtain ⟨i, j, rfl, rfl⟩ := hw
          exact W.lcmp hx hb hd k9
      · rw [if_neg ht2]
        exact trivial

theorem zi_iinc {j : Int} (hd : decode cc pc = .ok (.iinc a j, 3)) (ha : Int32.ofInt j = nI a1) (hn : a < nL) : zIok X own mn cc nL W0 cl ft G me (pc, 35, a, a1, a2) (pc + 3) := by
  intro p l e R s m args below meth c Q D A ρ b ad0 k hC hF hL he hX
  obtain ⟨hx, hb, hml, hown, hts, hA, hlocks, hmn⟩ := hC
  show zres p l e R s m args below meth c Q D cl A ft ρ b nL ad0 me _ _ k (match z_get k.1 a with
    | some v => if z_isI v then zn_on (z_set1 k.1 a (z_addR G.2.2.2 v (0, a1))) k.2.1 k.2.2 else zn_bad k
    | none => zn_bad k)
  cases hg : z_get k.1 a with
  | none => exact trivial
  | some v =>
    by_cases ht : z_isI v = true
    · dsimp only
      rw [if_pos ht]
      intro _ _ kk
      intro ws tys H locs ls lv st hP hD hK hS hw had hl hlv hst
      obtain ⟨i, w, h1, h2⟩ := zl_get hlv hg
      obtain ⟨x, rfl⟩ := zv_I h2 ht
      refine lv_iinc hx hb hd hl h1 rfl hn rfl (fun ls' h' => kk ws tys H locs ls' _ st hP hD hK hS hw had h' (zl_set1 hlv ?_) hst)
      rw [ha]
      exact z_addR_ok he h2 rfl
    · dsimp only
      rw [if_neg ht]
      exact trivial
theorem zi_getf {i N : Nat} {C ref : String} {T : u_T} (hd : decode cc pc = .ok (.getfield i, 3)) (hc : cl[a]? = some (C, T, N)) (hin : ∀ w ∈ u_ws C T N, w ∈ W0) (hk : a1 < N) (hl : Cond.fieldLink own i ref (T a1).2.1 (T a1).2.2.1 ∈ W0) (hs : (T a1).1 = ref) : zIok X own mn cc nL W0 cl ft G me (pc, 1, a, a1, a2) (pc + 3) := by
  intro p l e R s m args below meth c Q D A ρ b ad0 k hC hF hL he hX
  obtain ⟨hx, hb, hml, hown, hts, hA, hlocks, hmn⟩ := hC
  obtain ⟨ls0, st0, S⟩ := k
  match st0 with
  | [] => exact trivial
  | x :: st0 =>
    show zres p l e R s m args below meth c Q D cl A ft ρ b nL ad0 me _ _ _ (match z_cat S.1 x.2 with
      | some t => if Nat.beq x.1 6 && Nat.beq t.1 0 && Nat.beq t.2.1 a then (match z_at t.2.2.2 a1 with
        | some v => zn_on ls0 (v :: st0) S
        | none => zn_bad (ls0, x :: st0, S)) else zn_bad (ls0, x :: st0, S)
      | none => zn_bad (ls0, x :: st0, S))
    cases hq : z_cat S.1 x.2 with
    | none => exact trivial
    | some t =>
      by_cases ht : (Nat.beq x.1 6 && Nat.beq t.1 0 && Nat.beq t.2.1 a) = true
      · dsimp only
        rw [if_pos ht]
        simp only [Bool.and_eq_true] at ht
        cases hv : z_at t.2.2.2 a1 with
        | none => exact trivial
        | some v =>
          intro _ _ kk
          exact zk_getf hq (Nat.eq_of_beq_eq_true ht.1.1) (Nat.eq_of_beq_eq_true ht.1.2) (Nat.eq_of_beq_eq_true ht.2) hv (fun H locs cells slots ls st ws tys q o fs w hP hK h1 h2 k9 => va_get hx hb hts hin hown hK hP q h1 hc a1 hk (hts _ hl) (fun z h9 => by rw [← hs]; exact h9) h2 hd k9) kk
      · dsimp only
        rw [if_neg ht]
        exact trivial
theorem zi_getfN {i N : Nat} {C ref host : String} {T : u_T} (hd : decode cc pc = .ok (.getfield i, 3)) (hc : cl[a]? = some (C, T, N)) (hin : ∀ w ∈ u_ws C T N, w ∈ W0) (hk : a1 < N) (hl : Cond.fieldLinkNest own i ref (T a1).2.1 (T a1).2.2.1 host ∈ W0) (hs : (T a1).1 = ref) : zIok X own mn cc nL W0 cl ft G me (pc, 1, a, a1, a2) (pc + 3) := by
  intro p l e R s m args below meth c Q D A ρ b ad0 k hC hF hL he hX
  obtain ⟨hx, hb, hml, hown, hts, hA, hlocks, hmn⟩ := hC
  obtain ⟨ls0, st0, S⟩ := k
  match st0 with
  | [] => exact trivial
  | x :: st0 =>
    show zres p l e R s m args below meth c Q D cl A ft ρ b nL ad0 me _ _ _ (match z_cat S.1 x.2 with
      | some t => if Nat.beq x.1 6 && Nat.beq t.1 0 && Nat.beq t.2.1 a then (match z_at t.2.2.2 a1 with
        | some v => zn_on ls0 (v :: st0) S
        | none => zn_bad (ls0, x :: st0, S)) else zn_bad (ls0, x :: st0, S)
      | none => zn_bad (ls0, x :: st0, S))
    cases hq : z_cat S.1 x.2 with
    | none => exact trivial
    | some t =>
      by_cases ht : (Nat.beq x.1 6 && Nat.beq t.1 0 && Nat.beq t.2.1 a) = true
      · dsimp only
        rw [if_pos ht]
        simp only [Bool.and_eq_true] at ht
        cases hv : z_at t.2.2.2 a1 with
        | none => exact trivial
        | some v =>
          intro _ _ kk
          exact zk_getf hq (Nat.eq_of_beq_eq_true ht.1.1) (Nat.eq_of_beq_eq_true ht.1.2) (Nat.eq_of_beq_eq_true ht.2) hv (fun H locs cells slots ls st ws tys q o fs w hP hK h1 h2 k9 => va_getN hx hb hts hin hown hK hP q h1 hc a1 hk (hts _ hl) (fun z h9 => by rw [← hs]; exact h9) h2 hd k9) kk
      · dsimp only
        rw [if_neg ht]
        exact trivial
/-- what fits in a field of a type -/
def z_tyF (t : Nat) (ty : FieldType) : Prop := match t with
  | 0 => ty = .int
  | 1 => ty = .long
  | 2 => (∃ C, ty = .object C) ∨ ∃ u, ty = .array u
  | 3 => ty = .boolean
  | _ => False
theorem z_fit_ok {ρ : Nat → Int32} {b : Nat} {ad : List Nat} {t : Nat} {v : zV} {w : Value} {ty : FieldType} (hf : z_fit t v = true) (hty : z_tyF t ty) (h : zv ρ b ad v w) : narrow ty w = w ∧ fits ty w = true := by
  match t, hf, hty with
  | 0, hf, hty =>
    obtain ⟨x, rfl⟩ := zv_I h hf
    rw [show ty = .int from hty]
    exact ⟨rfl, rfl⟩
  | 1, hf, hty =>
    obtain ⟨x, rfl⟩ := zv_L h hf
    rw [show ty = .long from hty]
    exact ⟨rfl, rfl⟩
  | 2, hf, hty =>
    have hw : w = .null ∨ ∃ x, w = .ref x := by
      obtain ⟨k, j⟩ := v
      simp only [z_fit, Bool.or_eq_true] at hf
      rcases hf with hf | hf
      · have e1 : k = 5 := Nat.eq_of_beq_eq_true hf
        subst e1
        exact Or.inl h
      · have e1 : k = 6 := Nat.eq_of_beq_eq_true hf
        subst e1
        obtain ⟨x, -, h⟩ := h
        exact Or.inr ⟨x, h⟩
    rcases hty with ⟨C, rfl⟩ | ⟨u, rfl⟩ <;> rcases hw with rfl | ⟨x, rfl⟩ <;> exact ⟨rfl, rfl⟩
  | 3, hf, hty =>
    obtain ⟨k, j⟩ := v
    simp only [z_fit, Bool.and_eq_true] at hf
    have e1 : k = 0 := Nat.eq_of_beq_eq_true hf.1
    subst e1
    have hj : j ≤ 1 := Nat.le_of_ble_eq_true hf.2
    rw [show ty = .boolean from hty, show w = .int (nI j) from h]
    have : j = 0 ∨ j = 1 := by omega
    rcases this with rfl | rfl <;> exact ⟨by decide +kernel, by decide +kernel⟩
  | _ + 4, hf, _ => cases hf

theorem zi_putf {i N : Nat} {C ref : String} {T : u_T} {ty0 : Nat → FieldType} {ty : FieldType} (hd : decode cc pc = .ok (.putfield i, 3)) (hc : cl[a]? = some (C, T, N)) (hin : ∀ w ∈ u_ws C T N, w ∈ W0) (hty : ∀ k, k < N → parseFieldDescriptor (T k).2.2.1 = some (ty0 k)) (hnm : ∀ a, a < N → ∀ b, b < N → a ≠ b → (T a).2.1 ≠ (T b).2.1) (hk : a1 < N) (hl : Cond.fieldLink own i ref (T a1).2.1 (T a1).2.2.1 ∈ W0) (hs : (T a1).1 = ref) (hfin : (T a1).2.2.2 = false) (hd2 : parseFieldDescriptor (T a1).2.2.1 = some ty) (hf : z_tyF a2 ty) : zIok X own mn cc nL W0 cl ft G me (pc, 4, a, a1, a2) (pc + 3) := by
  intro p l e R s m args below meth c Q D A ρ b ad0 k hC hF hL he hX
  obtain ⟨hx, hb, hml, hown, hts, hA, hlocks, hmn⟩ := hC
  obtain ⟨ls0, st0, S⟩ := k
  match st0 with
  | [] => exact trivial
  | [_] => exact trivial
  | v :: x :: st0 =>
    show zres p l e R s m args below meth c Q D cl A ft ρ b nL ad0 me _ _ _ (match z_cat S.1 x.2 with
      | some t => if Nat.beq x.1 6 && Nat.beq t.1 0 && Nat.beq t.2.1 a && z_fit a2 v && Nat.blt a1 (z_len t.2.2.2) then zn_on ls0 st0 (z_with S x.2 (0, a, t.2.2.1, z_put t.2.2.2 a1 v)) else zn_bad (ls0, v :: x :: st0, S)
      | none => zn_bad (ls0, v :: x :: st0, S))
    cases hq : z_cat S.1 x.2 with
    | none => exact trivial
    | some t =>
      by_cases ht : (Nat.beq x.1 6 && Nat.beq t.1 0 && Nat.beq t.2.1 a && z_fit a2 v && Nat.blt a1 (z_len t.2.2.2)) = true
      · dsimp only
        rw [if_pos ht]
        simp only [Bool.and_eq_true] at ht
        obtain ⟨⟨⟨⟨t1, t2⟩, t3⟩, t4⟩, t5⟩ := ht
        intro _ _ kk
        have hj : a1 < t.2.2.2.length := by
          have := Nat.le_of_ble_eq_true t5
          rw [z_len_eq] at this
          exact this
        refine zk_putf hq (Nat.eq_of_beq_eq_true t1) (Nat.eq_of_beq_eq_true t2) (Nat.eq_of_beq_eq_true t3) hj (fun w => narrow ty w = w ∧ fits ty w = true) (fun ad w h => z_fit_ok t4 hf h) (fun H locs cells slots ls st ws tys q o fs w hP hD hK hS h1 h2 hw k9 => ?_) kk
        exact va_put hx hb hts hin ty0 hty hnm hown hK hP hD hS q h1 hc a1 hk (hts _ hl) (fun z h9 => by rw [← hs]; exact h9) hfin hd2 hw.1 hw.2 h2 hd k9
      · dsimp only
        rw [if_neg ht]
        exact trivial

theorem zi_putfN {i N : Nat} {C ref host : String} {T : u_T} {ty0 : Nat → FieldType} {ty : FieldType} (hd : decode cc pc = .ok (.putfield i, 3)) (hc : cl[a]? = some (C, T, N)) (hin : ∀ w ∈ u_ws C T N, w ∈ W0) (hty : ∀ k, k < N → parseFieldDescriptor (T k).2.2.1 = some (ty0 k)) (hnm : ∀ a, a < N → ∀ b, b < N → a ≠ b → (T a).2.1 ≠ (T b).2.1) (hk : a1 < N) (hl : Cond.fieldLinkNest own i ref (T a1).2.1 (T a1).2.2.1 host ∈ W0) (hs : (T a1).1 = ref) (hfin : (T a1).2.2.2 = false) (hd2 : parseFieldDescriptor (T a1).2.2.1 = some ty) (hf : z_tyF a2 ty) : zIok X own mn cc nL W0 cl ft G me (pc, 4, a, a1, a2) (pc + 3) := by
  intro p l e R s m args below meth c Q D A ρ b ad0 k hC hF hL he hX
  obtain ⟨hx, hb, hml, hown, hts, hA, hlocks, hmn⟩ := hC
  obtain ⟨ls0, st0, S⟩ := k
  match st0 with
  | [] => exact trivial
  | [_] => exact trivial
  | v :: x :: st0 =>
    show zres p l e R s m args below meth c Q D cl A ft ρ b nL ad0 me _ _ _ (match z_cat S.1 x.2 with
      | some t => if Nat.beq x.1 6 && Nat.beq t.1 0 && Nat.beq t.2.1 a && z_fit a2 v && Nat.blt a1 (z_len t.2.2.2) then zn_on ls0 st0 (z_with S x.2 (0, a, t.2.2.1, z_put t.2.2.2 a1 v)) else zn_bad (ls0, v :: x :: st0, S)
      | none => zn_bad (ls0, v :: x :: st0, S))
    cases hq : z_cat S.1 x.2 with
    | none => exact trivial
    | some t =>
      by_cases ht : (Nat.beq x.1 6 && Nat.beq t.1 0 && Nat.beq t.2.1 a && z_fit a2 v && Nat.blt a1 (z_len t.2.2.2)) = true
      · dsimp only
        rw [if_pos ht]
        simp only [Bool.and_eq_true] at ht
        obtain ⟨⟨⟨⟨t1, t2⟩, t3⟩, t4⟩, t5⟩ := ht
        intro _ _ kk
        have hj : a1 < t.2.2.2.length := by
          have := Nat.le_of_ble_eq_true t5
          rw [z_len_eq] at this
          exact this
        refine zk_putf hq (Nat.eq_of_beq_eq_true t1) (Nat.eq_of_beq_eq_true t2) (Nat.eq_of_beq_eq_true t3) hj (fun w => narrow ty w = w ∧ fits ty w = true) (fun ad w h => z_fit_ok t4 hf h) (fun H locs cells slots ls st ws tys q o fs w hP hD hK hS h1 h2 hw k9 => ?_) kk
        exact va_putN hx hb hts hin ty0 hty hnm hown hK hP hD hS q h1 hc a1 hk (hts _ hl) (fun z h9 => by rw [← hs]; exact h9) hfin hd2 hw.1 hw.2 h2 hd k9
      · dsimp only
        rw [if_neg ht]
        exact trivial

theorem zi_putfF {i N : Nat} {C ref : String} {T : u_T} {ty0 : Nat → FieldType} {ty : FieldType} (hd : decode cc pc = .ok (.putfield i, 3)) (hc : cl[a]? = some (C, T, N)) (hin : ∀ w ∈ u_ws C T N, w ∈ W0) (hty : ∀ k, k < N → parseFieldDescriptor (T k).2.2.1 = some (ty0 k)) (hnm : ∀ a, a < N → ∀ b, b < N → a ≠ b → (T a).2.1 ≠ (T b).2.1) (hk : a1 < N) (hl : Cond.fieldLink own i ref (T a1).2.1 (T a1).2.2.1 ∈ W0) (hs : (T a1).1 = ref) (hfin : (T a1).2.2.2 = true) (hini : mn = "<init>") (hself : ref = own) (hd2 : parseFieldDescriptor (T a1).2.2.1 = some ty) (hf : z_tyF a2 ty) : zIok X own mn cc nL W0 cl ft G me (pc, 4, a, a1, a2) (pc + 3) := by
  intro p l e R s m args below meth c Q D A ρ b ad0 k hC hF hL he hX
  obtain ⟨hx, hb, hml, hown, hts, hA, hlocks, hmn⟩ := hC
  obtain ⟨ls0, st0, S⟩ := k
  match st0 with
  | [] => exact trivial
  | [_] => exact trivial
  | v :: x :: st0 =>
    show zres p l e R s m args below meth c Q D cl A ft ρ b nL ad0 me _ _ _ (match z_cat S.1 x.2 with
      | some t => if Nat.beq x.1 6 && Nat.beq t.1 0 && Nat.beq t.2.1 a && z_fit a2 v && Nat.blt a1 (z_len t.2.2.2) then zn_on ls0 st0 (z_with S x.2 (0, a, t.2.2.1, z_put t.2.2.2 a1 v)) else zn_bad (ls0, v :: x :: st0, S)
      | none => zn_bad (ls0, v :: x :: st0, S))
    cases hq : z_cat S.1 x.2 with
    | none => exact trivial
    | some t =>
      by_cases ht : (Nat.beq x.1 6 && Nat.beq t.1 0 && Nat.beq t.2.1 a && z_fit a2 v && Nat.blt a1 (z_len t.2.2.2)) = true
      · dsimp only
        rw [if_pos ht]
        simp only [Bool.and_eq_true] at ht
        obtain ⟨⟨⟨⟨t1, t2⟩, t3⟩, t4⟩, t5⟩ := ht
        intro _ _ kk
        have hj : a1 < t.2.2.2.length := by
          have := Nat.le_of_ble_eq_true t5
          rw [z_len_eq] at this
          exact this
        refine zk_putf hq (Nat.eq_of_beq_eq_true t1) (Nat.eq_of_beq_eq_true t2) (Nat.eq_of_beq_eq_true t3) hj (fun w => narrow ty w = w ∧ fits ty w = true) (fun ad w h => z_fit_ok t4 hf h) (fun H locs cells slots ls st ws tys q o fs w hP hD hK hS h1 h2 hw k9 => ?_) kk
        exact va_putF hx hb hts hin ty0 hty hnm hown hK hP hD hS q h1 hc a1 hk (hts _ hl) (fun z h9 => by rw [← hs]; exact h9) hfin (hmn.trans hini) (hs.trans hself) hd2 hw.1 hw.2 h2 hd k9
      · dsimp only
        rw [if_neg ht]
        exact trivial

/-- the script's own ints: what the law's method owes for its loads (nothing for the others) -/
def zScr (X : State → Nat → (Nat → Prop) → (Nat → Int32) → Prop) (own mn : String) (cc : ByteArray) (nL : Nat) (W0 : List Cond) (cl : List vw_C) (ft : List FieldType) (G : zG) (me : zP) (pc : Nat) : Prop :=
  ∀ (p : Program) (l : Launch) (e : Env) (R : Room) (s : State) (m : MethodId) (args : Array Value) (below : List Frame) (meth : Method) (c : Code) (Q : State → Prop) (D : va_G) (A : Nat → Prop) (ρ : Nat → Int32) (b : Nat) (ad0 : List Nat) (ls0 : zL) (S : zS) (st0 : List zV) (x y : zV), Nat.beq x.1 8 = true → p.tables.exec = Jvm.exec → c.code = cc → (∀ q, s.heap.size ≤ q → A q) → ze ρ G.2.2.2 → X s b A ρ →
    zres p l e R s m args below meth c Q D cl A ft ρ b nL ad0 me (pc + 1) pc (ls0, y :: x :: st0, S) (match z_kn G.2.2.2 y, z_kn G.2.2.2 (1, 9) with
        | some j, some n => if Nat.beq 1 1 && Nat.beq 0 0 && Nat.blt j n && Nat.blt n 100 then zn_on ls0 ((1, j) :: st0) S else zn_bad (ls0, y :: x :: st0, S)
        | _, _ => zn_bad (ls0, y :: x :: st0, S))

theorem zi_iald (hscr : zScr X own mn cc nL W0 cl ft G me pc) (hd : decode cc pc = .ok (.iaload, 1)) : zIok X own mn cc nL W0 cl ft G me (pc, 8, a, a1, a2) (pc + 1) := by
  intro p l e R s m args below meth c Q D A ρ b ad0 k hC hF hL he hX
  obtain ⟨hx, hb, hml, hown, hts, hA, hlocks, hmn⟩ := hC
  obtain ⟨ls0, st0, S⟩ := k
  match st0 with
  | [] => exact trivial
  | [_] => exact trivial
  | y :: x :: st0 =>
    by_cases h8 : Nat.beq x.1 8 = true
    · have e8 : z_do G (pc, 8, a, a1, a2) (ls0, y :: x :: st0, S) = (match z_kn G.2.2.2 y, z_kn G.2.2.2 (1, 9) with
        | some j, some n => if Nat.beq 1 1 && Nat.beq 0 0 && Nat.blt j n && Nat.blt n 100 then zn_on ls0 ((1, j) :: st0) S else zn_bad (ls0, y :: x :: st0, S)
        | _, _ => zn_bad (ls0, y :: x :: st0, S)) := by
        show (if Nat.beq x.1 8 then _ else _) = _
        rw [if_pos h8]
        rfl
      rw [e8]
      exact hscr p l e R s m args below meth c Q D A ρ b ad0 ls0 S st0 x y h8 hx hb hA he hX
    have e9 : z_do G (pc, 8, a, a1, a2) (ls0, y :: x :: st0, S) = (match z_cat S.1 x.2 with
      | none => zn_bad (ls0, y :: x :: st0, S)
      | some t => if Nat.beq x.1 6 && (Nat.beq 1 t.1 || Nat.beq t.1 2) && z_tq S.2.1 t.2.1 0 0 then (match z_kn G.2.2.2 y with
        | some j => (match z_ald t j with
          | some v => zn_on ls0 (v :: st0) S
          | none => zn_bad (ls0, y :: x :: st0, S))
        | none => if z_alike t G.2.2.2 y then (match z_at t.2.2.2 0 with
          | some v => zn_on ls0 (v :: st0) S
          | none => zn_bad (ls0, y :: x :: st0, S)) else z_icut G.2.2.2 y (ls0, y :: x :: st0, S)) else zn_bad (ls0, y :: x :: st0, S)) := by
      show (if Nat.beq x.1 8 then _ else _) = _
      rw [if_neg h8]
      rfl
    rw [e9]
    cases hq : z_cat S.1 x.2 with
    | none => exact trivial
    | some t =>
      dsimp only
      split
      · rename_i ht
        simp only [Bool.and_eq_true] at ht
        obtain ⟨⟨t1, t2⟩, t3⟩ := ht
        have h6 : x.1 = 6 := Nat.eq_of_beq_eq_true t1
        have h0 : t.1 = 1 ∨ t.1 = 2 := by
          simp only [Bool.or_eq_true] at t2
          rcases t2 with t2 | t2
          · exact Or.inl (Nat.eq_of_beq_eq_true t2).symm
          · exact Or.inr (Nat.eq_of_beq_eq_true t2)
        have hok : ∃ w, z_at S.2.1 t.2.1 = some w ∧ (fun ty => ty = .int) (z_ty ft w) := by
          unfold z_tq at t3
          cases hz : z_at S.2.1 t.2.1 with
          | none => rw [hz] at t3; cases t3
          | some w =>
            rw [hz] at t3
            simp only [Bool.or_eq_true] at t3
            refine ⟨w, rfl, ?_⟩
            rcases t3 with t3 | t3
            · rw [Nat.eq_of_beq_eq_true t3]
              first | exact rfl | exact Or.inl rfl
            · rw [Nat.eq_of_beq_eq_true t3]
              first | exact rfl | exact Or.inr rfl
        cases hy : z_kn G.2.2.2 y with
        | some j =>
          dsimp only
          cases hv : z_ald t j with
          | none => exact trivial
          | some v =>
            intro _ _ kk
            refine zk_iald (fun ty => ty = .int) he hq h6 h0 hok hy hv (fun H locs cells slots ls st ws tys q t0 o N cA ty f i hP hK h1 h2 h3 h4 k9 => ?_) kk
            subst h3
            exact va_iald hx hb hK hP q t0 h1 h2 h4 hd k9
        | none =>
          dsimp only
          split
          · rename_i hal
            cases hv : z_at t.2.2.2 0 with
            | none => exact trivial
            | some v =>
              intro _ _ kk
              have h02 : t.1 = 2 := by
                have h9 := hal
                unfold z_alike at h9
                simp only [Bool.and_eq_true, Bool.or_eq_true] at h9
                rcases h9.1 with (h9 | h9) | h9
                · have h9 := Nat.eq_of_beq_eq_true h9
                  omega
                · have h9 := Nat.eq_of_beq_eq_true h9
                  omega
                · have h9 := Nat.eq_of_beq_eq_true h9
                  omega
              refine zk_ialdR (fun ty => ty = .int) he hq h6 h02 hok hal hv (fun H locs cells slots ls st ws tys q t0 o N cA ty f i hP hK h1 h2 h3 h4 k9 => ?_) kk
              subst h3
              exact va_iald hx hb hK hP q t0 h1 h2 h4 hd k9
          · unfold z_icut
            split
            · split <;> exact trivial
            · exact trivial
      · exact trivial

theorem zi_bald (hd : decode cc pc = .ok (.baload, 1)) : zIok X own mn cc nL W0 cl ft G me (pc, 62, a, a1, a2) (pc + 1) := by
  intro p l e R s m args below meth c Q D A ρ b ad0 k hC hF hL he hX
  obtain ⟨hx, hb, hml, hown, hts, hA, hlocks, hmn⟩ := hC
  obtain ⟨ls0, st0, S⟩ := k
  match st0 with
  | [] => exact trivial
  | [_] => exact trivial
  | y :: x :: st0 =>
    by_cases h8 : Nat.beq x.1 8 = true
    · have e8 : z_do G (pc, 62, a, a1, a2) (ls0, y :: x :: st0, S) = (match z_kn G.2.2.2 y, z_kn G.2.2.2 (1, 9) with
        | some j, some n => if Nat.beq 1 1 && Nat.beq 1 0 && Nat.blt j n && Nat.blt n 100 then zn_on ls0 ((1, j) :: st0) S else zn_bad (ls0, y :: x :: st0, S)
        | _, _ => zn_bad (ls0, y :: x :: st0, S)) := by
        show (if Nat.beq x.1 8 then _ else _) = _
        rw [if_pos h8]
        rfl
      rw [e8]
      cases z_kn G.2.2.2 y with
      | none => exact trivial
      | some j => cases z_kn G.2.2.2 (1, 9) <;> exact trivial
    have e9 : z_do G (pc, 62, a, a1, a2) (ls0, y :: x :: st0, S) = (match z_cat S.1 x.2 with
      | none => zn_bad (ls0, y :: x :: st0, S)
      | some t => if Nat.beq x.1 6 && (Nat.beq 1 t.1 || Nat.beq t.1 2) && z_tq S.2.1 t.2.1 1 2 then (match z_kn G.2.2.2 y with
        | some j => (match z_ald t j with
          | some v => zn_on ls0 (v :: st0) S
          | none => zn_bad (ls0, y :: x :: st0, S))
        | none => if z_alike t G.2.2.2 y then (match z_at t.2.2.2 0 with
          | some v => zn_on ls0 (v :: st0) S
          | none => zn_bad (ls0, y :: x :: st0, S)) else z_icut G.2.2.2 y (ls0, y :: x :: st0, S)) else zn_bad (ls0, y :: x :: st0, S)) := by
      show (if Nat.beq x.1 8 then _ else _) = _
      rw [if_neg h8]
      rfl
    rw [e9]
    cases hq : z_cat S.1 x.2 with
    | none => exact trivial
    | some t =>
      dsimp only
      split
      · rename_i ht
        simp only [Bool.and_eq_true] at ht
        obtain ⟨⟨t1, t2⟩, t3⟩ := ht
        have h6 : x.1 = 6 := Nat.eq_of_beq_eq_true t1
        have h0 : t.1 = 1 ∨ t.1 = 2 := by
          simp only [Bool.or_eq_true] at t2
          rcases t2 with t2 | t2
          · exact Or.inl (Nat.eq_of_beq_eq_true t2).symm
          · exact Or.inr (Nat.eq_of_beq_eq_true t2)
        have hok : ∃ w, z_at S.2.1 t.2.1 = some w ∧ (fun ty => ty = .byte ∨ ty = .boolean) (z_ty ft w) := by
          unfold z_tq at t3
          cases hz : z_at S.2.1 t.2.1 with
          | none => rw [hz] at t3; cases t3
          | some w =>
            rw [hz] at t3
            simp only [Bool.or_eq_true] at t3
            refine ⟨w, rfl, ?_⟩
            rcases t3 with t3 | t3
            · rw [Nat.eq_of_beq_eq_true t3]
              first | exact rfl | exact Or.inl rfl
            · rw [Nat.eq_of_beq_eq_true t3]
              first | exact rfl | exact Or.inr rfl
        cases hy : z_kn G.2.2.2 y with
        | some j =>
          dsimp only
          cases hv : z_ald t j with
          | none => exact trivial
          | some v =>
            intro _ _ kk
            refine zk_iald (fun ty => ty = .byte ∨ ty = .boolean) he hq h6 h0 hok hy hv (fun H locs cells slots ls st ws tys q t0 o N cA ty f i hP hK h1 h2 h3 h4 k9 => ?_) kk
            rcases h3 with rfl | rfl
            · exact va_bald hx hb hK hP q t0 h1 h2 h4 hd k9
            · exact va_zald hx hb hK hP q t0 h1 h2 h4 hd k9
        | none =>
          dsimp only
          split
          · rename_i hal
            cases hv : z_at t.2.2.2 0 with
            | none => exact trivial
            | some v =>
              intro _ _ kk
              have h02 : t.1 = 2 := by
                have h9 := hal
                unfold z_alike at h9
                simp only [Bool.and_eq_true, Bool.or_eq_true] at h9
                rcases h9.1 with (h9 | h9) | h9
                · have h9 := Nat.eq_of_beq_eq_true h9
                  omega
                · have h9 := Nat.eq_of_beq_eq_true h9
                  omega
                · have h9 := Nat.eq_of_beq_eq_true h9
                  omega
              refine zk_ialdR (fun ty => ty = .byte ∨ ty = .boolean) he hq h6 h02 hok hal hv (fun H locs cells slots ls st ws tys q t0 o N cA ty f i hP hK h1 h2 h3 h4 k9 => ?_) kk
              rcases h3 with rfl | rfl
              · exact va_bald hx hb hK hP q t0 h1 h2 h4 hd k9
              · exact va_zald hx hb hK hP q t0 h1 h2 h4 hd k9
          · unfold z_icut
            split
            · split <;> exact trivial
            · exact trivial
      · exact trivial

theorem zi_lald (hd : decode cc pc = .ok (.laload, 1)) : zIok X own mn cc nL W0 cl ft G me (pc, 26, a, a1, a2) (pc + 1) := by
  intro p l e R s m args below meth c Q D A ρ b ad0 k hC hF hL he hX
  obtain ⟨hx, hb, hml, hown, hts, hA, hlocks, hmn⟩ := hC
  obtain ⟨ls0, st0, S⟩ := k
  match st0 with
  | [] => exact trivial
  | [_] => exact trivial
  | y :: x :: st0 =>
    by_cases h8 : Nat.beq x.1 8 = true
    · have e8 : z_do G (pc, 26, a, a1, a2) (ls0, y :: x :: st0, S) = (match z_kn G.2.2.2 y, z_kn G.2.2.2 (1, 9) with
        | some j, some n => if Nat.beq 4 1 && Nat.beq 3 0 && Nat.blt j n && Nat.blt n 100 then zn_on ls0 ((1, j) :: st0) S else zn_bad (ls0, y :: x :: st0, S)
        | _, _ => zn_bad (ls0, y :: x :: st0, S)) := by
        show (if Nat.beq x.1 8 then _ else _) = _
        rw [if_pos h8]
        rfl
      rw [e8]
      cases z_kn G.2.2.2 y with
      | none => exact trivial
      | some j => cases z_kn G.2.2.2 (1, 9) <;> exact trivial
    have e9 : z_do G (pc, 26, a, a1, a2) (ls0, y :: x :: st0, S) = (match z_cat S.1 x.2 with
      | none => zn_bad (ls0, y :: x :: st0, S)
      | some t => if Nat.beq x.1 6 && (Nat.beq 4 t.1 || Nat.beq t.1 5) && z_tq S.2.1 t.2.1 3 3 then (match z_kn G.2.2.2 y with
        | some j => (match z_ald t j with
          | some v => zn_on ls0 (v :: st0) S
          | none => zn_bad (ls0, y :: x :: st0, S))
        | none => if z_alike t G.2.2.2 y then (match z_at t.2.2.2 0 with
          | some v => zn_on ls0 (v :: st0) S
          | none => zn_bad (ls0, y :: x :: st0, S)) else z_icut G.2.2.2 y (ls0, y :: x :: st0, S)) else zn_bad (ls0, y :: x :: st0, S)) := by
      show (if Nat.beq x.1 8 then _ else _) = _
      rw [if_neg h8]
      rfl
    rw [e9]
    cases hq : z_cat S.1 x.2 with
    | none => exact trivial
    | some t =>
      dsimp only
      split
      · rename_i ht
        simp only [Bool.and_eq_true] at ht
        obtain ⟨⟨t1, t2⟩, t3⟩ := ht
        have h6 : x.1 = 6 := Nat.eq_of_beq_eq_true t1
        have h0 : t.1 = 4 ∨ t.1 = 5 := by
          simp only [Bool.or_eq_true] at t2
          rcases t2 with t2 | t2
          · exact Or.inl (Nat.eq_of_beq_eq_true t2).symm
          · exact Or.inr (Nat.eq_of_beq_eq_true t2)
        have hok : ∃ w, z_at S.2.1 t.2.1 = some w ∧ (fun ty => ty = .long) (z_ty ft w) := by
          unfold z_tq at t3
          cases hz : z_at S.2.1 t.2.1 with
          | none => rw [hz] at t3; cases t3
          | some w =>
            rw [hz] at t3
            simp only [Bool.or_eq_true] at t3
            refine ⟨w, rfl, ?_⟩
            rcases t3 with t3 | t3
            · rw [Nat.eq_of_beq_eq_true t3]
              first | exact rfl | exact Or.inl rfl
            · rw [Nat.eq_of_beq_eq_true t3]
              first | exact rfl | exact Or.inr rfl
        cases hy : z_kn G.2.2.2 y with
        | some j =>
          dsimp only
          cases hv : z_ald t j with
          | none => exact trivial
          | some v =>
            intro _ _ kk
            refine zk_lald (fun ty => ty = .long) he hq h6 h0 hok hy hv (fun H locs cells slots ls st ws tys q t0 o N cA ty f i hP hK h1 h2 h3 h4 k9 => ?_) kk
            subst h3
            exact va_lald hx hb hK hP q t0 h1 h2 h4 hd k9
        | none =>
          dsimp only
          split
          · rename_i hal
            cases hv : z_at t.2.2.2 0 with
            | none => exact trivial
            | some v =>
              intro _ _ kk
              have h02 : t.1 = 5 := by
                have h9 := hal
                unfold z_alike at h9
                simp only [Bool.and_eq_true, Bool.or_eq_true] at h9
                rcases h9.1 with (h9 | h9) | h9
                · have h9 := Nat.eq_of_beq_eq_true h9
                  omega
                · have h9 := Nat.eq_of_beq_eq_true h9
                  omega
                · have h9 := Nat.eq_of_beq_eq_true h9
                  omega
              refine zk_laldR (fun ty => ty = .long) he hq h6 h02 hok hal hv (fun H locs cells slots ls st ws tys q t0 o N cA ty f i hP hK h1 h2 h3 h4 k9 => ?_) kk
              subst h3
              exact va_lald hx hb hK hP q t0 h1 h2 h4 hd k9
          · unfold z_icut
            split
            · split <;> exact trivial
            · exact trivial
      · exact trivial

end ZJ
