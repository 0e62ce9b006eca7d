/-! FIELDS, ROWS AND THE REST OF THE KINDS (by program) -/
section ZJ
variable {X : State → Nat → (Nat → Prop) → (Nat → Int32) → Prop} {own mn : String} {cc : ByteArray} {nL : Nat} {W0 : List Cond} {cl : List vw_C} {ft : List FieldType} {G : zG} {me : zP} {pc a a1 a2 a3 : Nat}

theorem zi_iast (hd : decode cc pc = .ok (.iastore, 1)) : zIok X own mn cc nL W0 cl ft G me (pc, 32, a, a1, a2) (pc + 1) := by
  intro p l e R s m args below meth c Q D A ρ b ad0 k hC hF hL he hX
  obtain ⟨hx, hb, hml, hown, hts, hA, hlocks, hmn⟩ := hC
  obtain ⟨ls0, st0, S⟩ := k
  match st0 with
  | [] => exact trivial
  | [_] => exact trivial
  | [_, _] => exact trivial
  | v :: y :: x :: st0 =>
    show zres p l e R s m args below meth c Q D cl A ft ρ b nL ad0 me _ _ _ (match z_kn G.2.2.2 y, z_cat S.1 x.2 with
      | none, _ => z_icut G.2.2.2 y (ls0, v :: y :: x :: st0, S)
      | some j, some t => if Nat.beq x.1 6 && z_isI v && z_tq S.2.1 t.2.1 0 0 then (match z_iast t j v with
        | some t2 => zn_on ls0 st0 (z_with S x.2 t2)
        | none => zn_bad (ls0, v :: y :: x :: st0, S)) else zn_bad (ls0, v :: y :: x :: st0, S)
      | some _, none => zn_bad (ls0, v :: y :: x :: st0, S))
    cases hy : z_kn G.2.2.2 y with
    | none =>
      dsimp only
      unfold z_icut
      split
      · split <;> exact trivial
      · exact trivial
    | some j =>
      cases hq : z_cat S.1 x.2 with
      | none => exact trivial
      | some t =>
        dsimp only
        split
        · rename_i ht
          simp only [Bool.and_eq_true] at ht
          obtain ⟨⟨t1, t2⟩, t3⟩ := ht
          have h6 : x.1 = 6 := Nat.eq_of_beq_eq_true t1
          have hok : ∃ w, z_at S.2.1 t.2.1 = some w ∧ (fun ty => ty = .int) (z_ty ft w) := by
            unfold z_tq at t3
            cases hz : z_at S.2.1 t.2.1 with
            | none => rw [hz] at t3; cases t3
            | some w =>
              rw [hz] at t3
              simp only [Bool.or_self] at t3
              refine ⟨w, rfl, ?_⟩
              rw [Nat.eq_of_beq_eq_true t3]
              exact rfl
          cases hv : z_iast t j v with
          | none => exact trivial
          | some t9 =>
            have h0 : t.1 = 1 ∨ t.1 = 2 := by
              have h9 := hv
              unfold z_iast at h9
              split at h9
              · split at h9
                · left; assumption
                · right; assumption
                · cases h9
              · cases h9
            intro _ _ kk
            refine zk_iast (fun ty => ty = .int) (fun i => i) he hq h6 h0 hok hy t2 (fun ad i h => h) hv (fun H locs cells slots ls st ws tys q t0 o N cA ty f i z hP hD hK hS h1 h2 h3 h4 k9 => ?_) kk
            subst h3
            exact va_iast hx hb hK hP hD hS q t0 h1 h2 h4 hd k9
        · exact trivial

theorem zi_bast (hd : decode cc pc = .ok (.bastore, 1)) : zIok X own mn cc nL W0 cl ft G me (pc, 46, a, a1, a2) (pc + 1) := by
  intro p l e R s m args below meth c Q D A ρ b ad0 k hC hF hL he hX
  obtain ⟨hx, hb, hml, hown, hts, hA, hlocks, hmn⟩ := hC
  obtain ⟨ls0, st0, S⟩ := k
  match st0 with
  | [] => exact trivial
  | [_] => exact trivial
  | [_, _] => exact trivial
  | v :: y :: x :: st0 =>
    show zres p l e R s m args below meth c Q D cl A ft ρ b nL ad0 me _ _ _ (match z_kn G.2.2.2 y, z_cat S.1 x.2 with
      | none, _ => z_icut G.2.2.2 y (ls0, v :: y :: x :: st0, S)
      | some j, some t => if Nat.beq x.1 6 && z_isI v && z_tq S.2.1 t.2.1 1 1 then (match z_iast t j (z_byte G.2.2.2 v) with
        | some t2 => zn_on ls0 st0 (z_with S x.2 t2)
        | none => zn_bad (ls0, v :: y :: x :: st0, S)) else zn_bad (ls0, v :: y :: x :: st0, S)
      | some _, none => zn_bad (ls0, v :: y :: x :: st0, S))
    cases hy : z_kn G.2.2.2 y with
    | none =>
      dsimp only
      unfold z_icut
      split
      · split <;> exact trivial
      · exact trivial
    | some j =>
      cases hq : z_cat S.1 x.2 with
      | none => exact trivial
      | some t =>
        dsimp only
        split
        · rename_i ht
          simp only [Bool.and_eq_true] at ht
          obtain ⟨⟨t1, t2⟩, t3⟩ := ht
          have h6 : x.1 = 6 := Nat.eq_of_beq_eq_true t1
          have hok : ∃ w, z_at S.2.1 t.2.1 = some w ∧ (fun ty => ty = .byte) (z_ty ft w) := by
            unfold z_tq at t3
            cases hz : z_at S.2.1 t.2.1 with
            | none => rw [hz] at t3; cases t3
            | some w =>
              rw [hz] at t3
              simp only [Bool.or_self] at t3
              refine ⟨w, rfl, ?_⟩
              rw [Nat.eq_of_beq_eq_true t3]
              exact rfl
          cases hv : z_iast t j (z_byte G.2.2.2 v) with
          | none => exact trivial
          | some t9 =>
            have h0 : t.1 = 1 ∨ t.1 = 2 := by
              have h9 := hv
              unfold z_iast at h9
              split at h9
              · split at h9
                · left; assumption
                · right; assumption
                · cases h9
              · cases h9
            intro _ _ kk
            refine zk_iast (fun ty => ty = .byte) (fun i => vp_nar .byte i) he hq h6 h0 hok hy t2 (fun ad i h => zv_some) hv (fun H locs cells slots ls st ws tys q t0 o N cA ty f i z hP hD hK hS h1 h2 h3 h4 k9 => ?_) kk
            subst h3
            exact va_bast hx hb hK hP hD hS q t0 h1 h2 h4 hd k9
        · exact trivial

theorem zi_zast (hd : decode cc pc = .ok (.bastore, 1)) : zIok X own mn cc nL W0 cl ft G me (pc, 79, a, a1, a2) (pc + 1) := by
  intro p l e R s m args below meth c Q D A ρ b ad0 k hC hF hL he hX
  obtain ⟨hx, hb, hml, hown, hts, hA, hlocks, hmn⟩ := hC
  obtain ⟨ls0, st0, S⟩ := k
  match st0 with
  | [] => exact trivial
  | [_] => exact trivial
  | [_, _] => exact trivial
  | v :: y :: x :: st0 =>
    show zres p l e R s m args below meth c Q D cl A ft ρ b nL ad0 me _ _ _ (match z_kn G.2.2.2 y, z_cat S.1 x.2 with
      | none, _ => z_icut G.2.2.2 y (ls0, v :: y :: x :: st0, S)
      | some j, some t => if Nat.beq x.1 6 && (Nat.beq v.1 0 && Nat.ble v.2 1) && z_tq S.2.1 t.2.1 2 2 then (match z_iast t j (v) with
        | some t2 => zn_on ls0 st0 (z_with S x.2 t2)
        | none => zn_bad (ls0, v :: y :: x :: st0, S)) else zn_bad (ls0, v :: y :: x :: st0, S)
      | some _, none => zn_bad (ls0, v :: y :: x :: st0, S))
    cases hy : z_kn G.2.2.2 y with
    | none =>
      dsimp only
      unfold z_icut
      split
      · split <;> exact trivial
      · exact trivial
    | some j =>
      cases hq : z_cat S.1 x.2 with
      | none => exact trivial
      | some t =>
        dsimp only
        split
        · rename_i ht
          simp only [Bool.and_eq_true] at ht
          obtain ⟨⟨t1, t2⟩, t3⟩ := ht
          have h6 : x.1 = 6 := Nat.eq_of_beq_eq_true t1
          have hok : ∃ w, z_at S.2.1 t.2.1 = some w ∧ (fun ty => ty = .boolean) (z_ty ft w) := by
            unfold z_tq at t3
            cases hz : z_at S.2.1 t.2.1 with
            | none => rw [hz] at t3; cases t3
            | some w =>
              rw [hz] at t3
              simp only [Bool.or_self] at t3
              refine ⟨w, rfl, ?_⟩
              rw [Nat.eq_of_beq_eq_true t3]
              exact rfl
          cases hv : z_iast t j (v) with
          | none => exact trivial
          | some t9 =>
            have h0 : t.1 = 1 ∨ t.1 = 2 := by
              have h9 := hv
              unfold z_iast at h9
              split at h9
              · split at h9
                · left; assumption
                · right; assumption
                · cases h9
              · cases h9
            have e0 := Nat.eq_of_beq_eq_true t2.1
            have e1 := Nat.le_of_ble_eq_true t2.2
            have t2I : z_isI v = true := by simp [z_isI, e0, Nat.ble]
            have t2V : ∀ (ad : List Nat) (i : Int32), zv ρ b ad v (.int i) → zv ρ b ad v (.int (vp_nar .boolean i)) := by
              intro ad i h
              obtain ⟨v1, v2⟩ := v
              dsimp only at e0 e1
              subst e0
              have h : Value.int i = .int (nI v2) := h
              cases h
              have : v2 = 0 ∨ v2 = 1 := by omega
              rcases this with rfl | rfl
              · show Value.int _ = Value.int _
                decide +kernel
              · show Value.int _ = Value.int _
                decide +kernel
            intro _ _ kk
            refine zk_iast (fun ty => ty = .boolean) (fun i => vp_nar .boolean i) he hq h6 h0 hok hy t2I (fun ad i h => t2V ad i h) hv (fun H locs cells slots ls st ws tys q t0 o N cA ty f i z hP hD hK hS h1 h2 h3 h4 k9 => ?_) kk
            subst h3
            exact va_zast hx hb hK hP hD hS q t0 h1 h2 h4 hd k9
        · exact trivial

theorem zi_last (hd : decode cc pc = .ok (.lastore, 1)) : zIok X own mn cc nL W0 cl ft G me (pc, 18, a, a1, a2) (pc + 1) := by
  intro p l e R s m args below meth c Q D A ρ b ad0 k hC hF hL he hX
  obtain ⟨hx, hb, hml, hown, hts, hA, hlocks, hmn⟩ := hC
  obtain ⟨ls0, st0, S⟩ := k
  match st0 with
  | [] => exact trivial
  | [_] => exact trivial
  | [_, _] => exact trivial
  | v :: y :: x :: st0 =>
    show zres p l e R s m args below meth c Q D cl A ft ρ b nL ad0 me _ _ _ (match z_kn G.2.2.2 y, z_cat S.1 x.2 with
      | none, _ => z_icut G.2.2.2 y (ls0, v :: y :: x :: st0, S)
      | some j, some t => if Nat.beq x.1 6 && z_isL v && z_tq S.2.1 t.2.1 3 3 then (match z_last t j v with
        | some t2 => zn_on ls0 st0 (z_with S x.2 t2)
        | none => zn_bad (ls0, v :: y :: x :: st0, S)) else zn_bad (ls0, v :: y :: x :: st0, S)
      | some _, none => zn_bad (ls0, v :: y :: x :: st0, S))
    cases hy : z_kn G.2.2.2 y with
    | none =>
      dsimp only
      unfold z_icut
      split
      · split <;> exact trivial
      · exact trivial
    | some j =>
      cases hq : z_cat S.1 x.2 with
      | none => exact trivial
      | some t =>
        dsimp only
        split
        · rename_i ht
          simp only [Bool.and_eq_true] at ht
          obtain ⟨⟨t1, t2⟩, t3⟩ := ht
          have h6 : x.1 = 6 := Nat.eq_of_beq_eq_true t1
          have hok : ∃ w, z_at S.2.1 t.2.1 = some w ∧ (fun ty => ty = .long) (z_ty ft w) := by
            unfold z_tq at t3
            cases hz : z_at S.2.1 t.2.1 with
            | none => rw [hz] at t3; cases t3
            | some w =>
              rw [hz] at t3
              simp only [Bool.or_self] at t3
              refine ⟨w, rfl, ?_⟩
              rw [Nat.eq_of_beq_eq_true t3]
              exact rfl
          cases hv : z_last t j v with
          | none => exact trivial
          | some t9 =>
            have h0 : t.1 = 4 ∨ t.1 = 5 := by
              have h9 := hv
              unfold z_last at h9
              split at h9
              · split at h9
                · left; assumption
                · right; assumption
                · cases h9
              · cases h9
            intro _ _ kk
            refine zk_last (fun ty => ty = .long) (fun i => i) he hq h6 h0 hok hy t2 (fun ad i h => h) hv (fun H locs cells slots ls st ws tys q t0 o N cA ty f i z hP hD hK hS h1 h2 h3 h4 k9 => ?_) kk
            subst h3
            exact va_last hx hb hK hP hD hS q t0 h1 h2 h4 hd k9
        · exact trivial

/-- the types of rows of references are objects' types -/
def z_tyA (S : zS) (ft : List FieldType) (t : zC) : Prop := ∃ w, z_at S.2.1 t.2.1 = some w ∧ ∃ C, z_ty ft w = .object C
theorem zi_alen (hscr : ∀ (p : Program) (l : Launch) (e : Env) (R : Room) (s : State) (m : MethodId) (args : Array Value) (below : List Frame) (meth : Method) (c : Code) (Q : State → Prop) (D : va_G) (A : Nat → Prop) (ρ : Nat → Int32) (b : Nat) (ad0 : List Nat) (ls0 : zL) (S : zS) (st0 : List zV) (x : zV), Nat.beq x.1 8 = true → p.tables.exec = Jvm.exec → c.code = cc → (∀ q, s.heap.size ≤ q → A q) → X s b A ρ → zgo p l e R s m args below meth c Q D cl A ft ρ b nL ad0 (pc + 1) (ls0, (1, 9) :: st0, S) → zgo p l e R s m args below meth c Q D cl A ft ρ b nL ad0 pc (ls0, x :: st0, S))
    (hd : decode cc pc = .ok (.arraylength, 1)) : zIok X own mn cc nL W0 cl ft G me (pc, 47, a, a1, a2) (pc + 1) := by
  intro p l e R s m args below meth c Q D A ρ b ad0 k hC hF hL he hX
  obtain ⟨hx, hb, hml, hown, hts, hA, hlocks, hmn⟩ := hC
  obtain ⟨ls0, st0, S⟩ := k
  match st0 with
  | [] => exact trivial
  | x :: st0 =>
    show zres p l e R s m args below meth c Q D cl A ft ρ b nL ad0 me _ _ _ (if Nat.beq x.1 8 then zn_on ls0 ((1, 9) :: st0) S else (match z_cat S.1 x.2 with
      | some t => if Nat.beq x.1 6 && Nat.blt 0 t.1 then zn_on ls0 ((0, t.2.2.1) :: st0) S else zn_bad (ls0, x :: st0, S)
      | none => zn_bad (ls0, x :: st0, S)))
    by_cases h8 : Nat.beq x.1 8 = true
    · rw [if_pos h8]
      intro _ _ kk
      exact hscr p l e R s m args below meth c Q D A ρ b ad0 ls0 S st0 x h8 hx hb hA hX kk
    · rw [if_neg h8]
      cases hq : z_cat S.1 x.2 with
      | none => exact trivial
      | some t =>
        dsimp only
        split
        · rename_i ht
          simp only [Bool.and_eq_true] at ht
          intro _ _ kk
          exact zk_alen hq (Nat.eq_of_beq_eq_true ht.1) (Nat.le_of_ble_eq_true ht.2) (fun H locs cells slots ls st ws tys q t0 o cA y ty hP hK h1 h2 k9 => va_alen hx hb hK hP q t0 h1 h2 rfl hd k9) kk
        · exact trivial
theorem zi_ifnull {off : Int} {t : Nat} (hd : decode cc pc = .ok (.ifnull off, 3)) (ht : (pc : Int) + off = (t : Int)) (hj : (z_drop me.1 a).head?.map (fun y => y.1) = some t) : zIok X own mn cc nL W0 cl ft G me (pc, 43, a, a1, a2) (pc + 3) := by
  intro p l e R s m args below meth c Q D A ρ b ad0 k hC hF hL he hX
  obtain ⟨hx, hb, hml, hown, hts, hA, hlocks, hmn⟩ := hC
  obtain ⟨ls0, st0, S⟩ := k
  match st0 with
  | [] => exact trivial
  | x :: st0 =>
    show zres p l e R s m args below meth c Q D cl A ft ρ b nL ad0 me _ _ _ (if Nat.beq x.1 5 then zn_to a ls0 st0 S else if Nat.beq x.1 6 then zn_on ls0 st0 S else zn_bad (ls0, x :: st0, S))
    by_cases h5 : Nat.beq x.1 5 = true
    · rw [if_pos h5]
      intro kk
      cases hq : z_drop me.1 a with
      | nil => rw [hq] at hj; cases hj
      | cons z r =>
        rw [hq] at hj
        have hj := Option.some.inj hj
        exact zk_null (t := t) (Nat.eq_of_beq_eq_true h5) (fun H locs cells slots ls st k9 => lv_ifnullN hx hb hd ht k9) (by have := kk z r hq; rw [← hj]; exact this)
    · rw [if_neg h5]
      by_cases h6 : Nat.beq x.1 6 = true
      · rw [if_pos h6]
        intro _ _ kk
        exact zk_nonnull (Nat.eq_of_beq_eq_true h6) (fun H locs cells slots ls st o k9 => lv_ifnull hx hb hd k9) kk
      · rw [if_neg h6]
        exact trivial
theorem zi_ifnonnull {off : Int} {t : Nat} (hd : decode cc pc = .ok (.ifnonnull off, 3)) (ht : (pc : Int) + off = (t : Int)) (hj : (z_drop me.1 a).head?.map (fun y => y.1) = some t) : zIok X own mn cc nL W0 cl ft G me (pc, 44, a, a1, a2) (pc + 3) := by
  intro p l e R s m args below meth c Q D A ρ b ad0 k hC hF hL he hX
  obtain ⟨hx, hb, hml, hown, hts, hA, hlocks, hmn⟩ := hC
  obtain ⟨ls0, st0, S⟩ := k
  match st0 with
  | [] => exact trivial
  | x :: st0 =>
    show zres p l e R s m args below meth c Q D cl A ft ρ b nL ad0 me _ _ _ (if Nat.beq x.1 6 then zn_to a ls0 st0 S else if Nat.beq x.1 5 then zn_on ls0 st0 S else zn_bad (ls0, x :: st0, S))
    by_cases h6 : Nat.beq x.1 6 = true
    · rw [if_pos h6]
      intro kk
      cases hq : z_drop me.1 a with
      | nil => rw [hq] at hj; cases hj
      | cons z r =>
        rw [hq] at hj
        have hj := Option.some.inj hj
        exact zk_nonnull (t := t) (Nat.eq_of_beq_eq_true h6) (fun H locs cells slots ls st o k9 => lv_ifnonnull hx hb hd ht k9) (by have := kk z r hq; rw [← hj]; exact this)
    · rw [if_neg h6]
      by_cases h5 : Nat.beq x.1 5 = true
      · rw [if_pos h5]
        intro _ _ kk
        exact zk_null (Nat.eq_of_beq_eq_true h5) (fun H locs cells slots ls st k9 => lv_ifnonnullN hx hb hd k9) kk
      · rw [if_neg h5]
        exact trivial

end ZJ
