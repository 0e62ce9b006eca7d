/-! FORKS, FORGETTING, STOPS, AND PIECES OF CODE THAT ARE TAKEN AS ONE -/
section ZMO
variable {X : State → Nat → (Nat → Prop) → (Nat → Int32) → Prop} {own mn : String} {cc : ByteArray} {nL : Nat} {W0 : List Cond} {cl : List vw_C} {ft : List FieldType} {G : zG} {me : zP} {pc a a1 a2 : Nat}
theorem zi_fork_eq {off : Int} {t : Nat} (hd : decode cc pc = .ok (.if_icmp .eq off, 3)) (ht : (pc : Int) + off = (t : Int)) (hj : (z_drop me.1 a).head?.map (fun y => y.1) = some t) : zIok X own mn cc nL W0 cl ft G me (pc, 69, a, a1, a2) (pc + 3) := by
  intro p l e R s m args below meth c Q D A ρ b ad0 k hC hF hL he hX
  obtain ⟨hx, hb, hml, hown, hts, hA, hlocks, hmn⟩ := hC
  obtain ⟨ls0, st0, S⟩ := k
  match st0 with
  | [] => exact trivial
  | [_] => exact trivial
  | y :: x :: st0 =>
    show zres p l e R s m args below meth c Q D cl A ft ρ b nL ad0 me _ _ _ (if z_isI x && z_isI y then (10, a, (0, 0), ls0, st0, S) else zn_bad (ls0, y :: x :: st0, S))
    by_cases hi : (z_isI x && z_isI y) = true
    · rw [if_pos hi]
      simp only [Bool.and_eq_true] at hi
      intro k1 k2
      have k3 : zgo p l e R s m args below meth c Q D cl A ft ρ b nL ad0 t (ls0, st0, S) := by
        cases hq : z_drop me.1 a with
        | nil => rw [hq] at hj; cases hj
        | cons z r =>
          rw [hq] at hj
          have hj := Option.some.inj hj
          have := k2 z r hq
          rw [← hj]
          exact this
      intro ws tys H locs ls lv st hP hD hK hS hw had hl hlv hst
      match st, hst with
      | w2 :: w1 :: st, hst =>
        obtain ⟨j, rfl⟩ := zv_I hst.1 hi.2
        obtain ⟨i, rfl⟩ := zv_I hst.2.1 hi.1
        exact lv_icmp_eq hx hb hd ht (fun _ => k3 ws tys H locs ls lv st hP hD hK hS hw had hl hlv hst.2.2) (fun _ => k1 ws tys H locs ls lv st hP hD hK hS hw had hl hlv hst.2.2)
    · rw [if_neg hi]
      exact trivial
theorem zi_fork_le {off : Int} {t : Nat} (hd : decode cc pc = .ok (.if_icmp .le off, 3)) (ht : (pc : Int) + off = (t : Int)) (hj : (z_drop me.1 a).head?.map (fun y => y.1) = some t) : zIok X own mn cc nL W0 cl ft G me (pc, 69, a, a1, a2) (pc + 3) := by
  intro p l e R s m args below meth c Q D A ρ b ad0 k hC hF hL he hX
  obtain ⟨hx, hb, hml, hown, hts, hA, hlocks, hmn⟩ := hC
  obtain ⟨ls0, st0, S⟩ := k
  match st0 with
  | [] => exact trivial
  | [_] => exact trivial
  | y :: x :: st0 =>
    show zres p l e R s m args below meth c Q D cl A ft ρ b nL ad0 me _ _ _ (if z_isI x && z_isI y then (10, a, (0, 0), ls0, st0, S) else zn_bad (ls0, y :: x :: st0, S))
    by_cases hi : (z_isI x && z_isI y) = true
    · rw [if_pos hi]
      simp only [Bool.and_eq_true] at hi
      intro k1 k2
      have k3 : zgo p l e R s m args below meth c Q D cl A ft ρ b nL ad0 t (ls0, st0, S) := by
        cases hq : z_drop me.1 a with
        | nil => rw [hq] at hj; cases hj
        | cons z r =>
          rw [hq] at hj
          have hj := Option.some.inj hj
          have := k2 z r hq
          rw [← hj]
          exact this
      intro ws tys H locs ls lv st hP hD hK hS hw had hl hlv hst
      match st, hst with
      | w2 :: w1 :: st, hst =>
        obtain ⟨j, rfl⟩ := zv_I hst.1 hi.2
        obtain ⟨i, rfl⟩ := zv_I hst.2.1 hi.1
        exact lv_icmp_le hx hb hd ht (fun _ => k3 ws tys H locs ls lv st hP hD hK hS hw had hl hlv hst.2.2) (fun _ => k1 ws tys H locs ls lv st hP hD hK hS hw had hl hlv hst.2.2)
    · rw [if_neg hi]
      exact trivial
theorem zi_lmul (hd : decode cc pc = .ok (.lmul, 1)) : zIok X own mn cc nL W0 cl ft G me (pc, 70, a, a1, a2) (pc + 1) := by
  intro p l e R s m args below meth c Q D A ρ b ad0 k hC hF hL he hX
  obtain ⟨hx, hb, hml, hown, hts, hA, hlocks, hmn⟩ := hC
  obtain ⟨ls0, st0, S⟩ := k
  match st0 with
  | [] => exact trivial
  | [_] => exact trivial
  | y :: x :: st0 =>
    show zres p l e R s m args below meth c Q D cl A ft ρ b nL ad0 me _ _ _ (if z_isL x && z_isL y then zn_on ls0 ((4, 0) :: st0) S else zn_bad (ls0, y :: x :: st0, S))
    by_cases ht : (z_isL x && z_isL y) = true
    · rw [if_pos ht]
      simp only [Bool.and_eq_true] at ht
      intro _ _ kk
      refine zk_2 (fun w w2 => match w, w2 with
        | .long i, .long j => .long (i * j)
        | _, _ => .null) (fun w w2 => ∃ i j, w = .long i ∧ w2 = .long j) (fun ad w w2 h h2 => ?_) (fun H locs cells slots ls st w w2 hw k9 => ?_) kk
      · obtain ⟨i, rfl⟩ := zv_L h ht.1
        obtain ⟨j, rfl⟩ := zv_L h2 ht.2
        exact ⟨⟨i, j, rfl, rfl⟩, ⟨_, rfl⟩⟩
      · obtain ⟨i, j, rfl, rfl⟩ := hw
        exact lv_lmul hx hb hd k9
    · rw [if_neg ht]
      exact trivial
theorem zi_land (hd : decode cc pc = .ok (.land, 1)) : zIok X own mn cc nL W0 cl ft G me (pc, 70, a, a1, a2) (pc + 1) := by
  intro p l e R s m args below meth c Q D A ρ b ad0 k hC hF hL he hX
  obtain ⟨hx, hb, hml, hown, hts, hA, hlocks, hmn⟩ := hC
  obtain ⟨ls0, st0, S⟩ := k
  match st0 with
  | [] => exact trivial
  | [_] => exact trivial
  | y :: x :: st0 =>
    show zres p l e R s m args below meth c Q D cl A ft ρ b nL ad0 me _ _ _ (if z_isL x && z_isL y then zn_on ls0 ((4, 0) :: st0) S else zn_bad (ls0, y :: x :: st0, S))
    by_cases ht : (z_isL x && z_isL y) = true
    · rw [if_pos ht]
      simp only [Bool.and_eq_true] at ht
      intro _ _ kk
      refine zk_2 (fun w w2 => match w, w2 with
        | .long i, .long j => .long (i &&& j)
        | _, _ => .null) (fun w w2 => ∃ i j, w = .long i ∧ w2 = .long j) (fun ad w w2 h h2 => ?_) (fun H locs cells slots ls st w w2 hw k9 => ?_) kk
      · obtain ⟨i, rfl⟩ := zv_L h ht.1
        obtain ⟨j, rfl⟩ := zv_L h2 ht.2
        exact ⟨⟨i, j, rfl, rfl⟩, ⟨_, rfl⟩⟩
      · obtain ⟨i, j, rfl, rfl⟩ := hw
        exact lv_land hx hb hd k9
    · rw [if_neg ht]
      exact trivial
theorem zi_lshl (hd : decode cc pc = .ok (.lshl, 1)) : zIok X own mn cc nL W0 cl ft G me (pc, 71, a, a1, a2) (pc + 1) := by
  intro p l e R s m args below meth c Q D A ρ b ad0 k hC hF hL he hX
  obtain ⟨hx, hb, hml, hown, hts, hA, hlocks, hmn⟩ := hC
  obtain ⟨ls0, st0, S⟩ := k
  match st0 with
  | [] => exact trivial
  | [_] => exact trivial
  | y :: x :: st0 =>
    show zres p l e R s m args below meth c Q D cl A ft ρ b nL ad0 me _ _ _ (if z_isL x && z_isI y then zn_on ls0 ((4, 0) :: st0) S else zn_bad (ls0, y :: x :: st0, S))
    by_cases ht : (z_isL x && z_isI y) = true
    · rw [if_pos ht]
      simp only [Bool.and_eq_true] at ht
      intro _ _ kk
      refine zk_2 (fun w w2 => match w, w2 with
        | .long i, .int j => .long (i <<< (j.toInt64 &&& 63))
        | _, _ => .null) (fun w w2 => ∃ i j, w = .long i ∧ w2 = .int j) (fun ad w w2 h h2 => ?_) (fun H locs cells slots ls st w w2 hw k9 => ?_) kk
      · obtain ⟨i, rfl⟩ := zv_L h ht.1
        obtain ⟨j, rfl⟩ := zv_I h2 ht.2
        exact ⟨⟨i, j, rfl, rfl⟩, ⟨_, rfl⟩⟩
      · obtain ⟨i, j, rfl, rfl⟩ := hw
        exact lv_lshl hx hb hd rfl k9
    · rw [if_neg ht]
      exact trivial
theorem zi_lshr (hd : decode cc pc = .ok (.lshr, 1)) : zIok X own mn cc nL W0 cl ft G me (pc, 71, a, a1, a2) (pc + 1) := by
  intro p l e R s m args below meth c Q D A ρ b ad0 k hC hF hL he hX
  obtain ⟨hx, hb, hml, hown, hts, hA, hlocks, hmn⟩ := hC
  obtain ⟨ls0, st0, S⟩ := k
  match st0 with
  | [] => exact trivial
  | [_] => exact trivial
  | y :: x :: st0 =>
    show zres p l e R s m args below meth c Q D cl A ft ρ b nL ad0 me _ _ _ (if z_isL x && z_isI y then zn_on ls0 ((4, 0) :: st0) S else zn_bad (ls0, y :: x :: st0, S))
    by_cases ht : (z_isL x && z_isI y) = true
    · rw [if_pos ht]
      simp only [Bool.and_eq_true] at ht
      intro _ _ kk
      refine zk_2 (fun w w2 => match w, w2 with
        | .long i, .int j => .long (i >>> (j.toInt64 &&& 63))
        | _, _ => .null) (fun w w2 => ∃ i j, w = .long i ∧ w2 = .int j) (fun ad w w2 h h2 => ?_) (fun H locs cells slots ls st w w2 hw k9 => ?_) kk
      · obtain ⟨i, rfl⟩ := zv_L h ht.1
        obtain ⟨j, rfl⟩ := zv_I h2 ht.2
        exact ⟨⟨i, j, rfl, rfl⟩, ⟨_, rfl⟩⟩
      · obtain ⟨i, j, rfl, rfl⟩ := hw
        exact lv_lshr hx hb hd rfl k9
    · rw [if_neg ht]
      exact trivial
theorem zi_forget0 : zIok X own mn cc nL W0 cl ft G me (pc, 72, 0, a1, a2) pc := by
  intro p l e R s m args below meth c Q D A ρ b ad0 k hC hF hL he hX
  obtain ⟨ls0, st0, S⟩ := k
  match st0 with
  | [] => exact trivial
  | x :: st0 =>
    show zres p l e R s m args below meth c Q D cl A ft ρ b nL ad0 me _ _ _ (if z_isI x then zn_on ls0 ((2, 0) :: st0) S else zn_bad (ls0, x :: st0, S))
    by_cases ht : z_isI x = true
    · rw [if_pos ht]
      intro _ _ kk ws tys H locs ls lv st hP hD hK hS hw had hl hlv hst
      match st, hst with
      | w :: st, hst => exact kk ws tys H locs ls lv (w :: st) hP hD hK hS hw had hl hlv ⟨zv_I hst.1 ht, hst.2⟩
    · rw [if_neg ht]
      exact trivial
theorem zi_forget1 : zIok X own mn cc nL W0 cl ft G me (pc, 72, 1, a1, a2) pc := by
  intro p l e R s m args below meth c Q D A ρ b ad0 k hC hF hL he hX
  obtain ⟨ls0, st0, S⟩ := k
  match st0 with
  | [] => exact trivial
  | [_] => exact trivial
  | y :: x :: st0 =>
    show zres p l e R s m args below meth c Q D cl A ft ρ b nL ad0 me _ _ _ (if z_isI x then zn_on ls0 (y :: (2, 0) :: st0) S else zn_bad (ls0, y :: x :: st0, S))
    by_cases ht : z_isI x = true
    · rw [if_pos ht]
      intro _ _ kk ws tys H locs ls lv st hP hD hK hS hw had hl hlv hst
      match st, hst with
      | w :: w2 :: st, hst => exact kk ws tys H locs ls lv (w :: w2 :: st) hP hD hK hS hw had hl hlv ⟨hst.1, zv_I hst.2.1 ht, hst.2.2⟩
    · rw [if_neg ht]
      exact trivial
theorem z_wide_ok {ρ : Nat → Int32} {b : Nat} {ad : List Nat} {tys : List (ClassId × FieldType)} {c c2 : zC} {e : va_E} (h : z_wide c = some c2) (hc : zc ρ b ad tys c e) : zc ρ b ad tys c2 e := by
  obtain ⟨t, x, n, l⟩ := c
  match t, h, hc with
  | 1, h, hc =>
    cases h
    obtain ⟨cA, f, ty, h1, h2, -⟩ := hc
    refine ⟨cA, f, ty, h1, h2, fun j v _ hv => ?_⟩
    cases hv
    exact ⟨_, rfl⟩
  | 4, h, hc =>
    cases h
    obtain ⟨cA, f, ty, h1, h2, -⟩ := hc
    refine ⟨cA, f, ty, h1, h2, fun j v _ hv => ?_⟩
    cases hv
    exact ⟨_, rfl⟩
  | 2, h, hc =>
    cases h
    obtain ⟨cA, f, ty, h1, h2, -⟩ := hc
    refine ⟨cA, f, ty, h1, h2, fun j v _ hv => ?_⟩
    cases hv
    exact ⟨_, rfl⟩
  | 5, h, hc =>
    cases h
    obtain ⟨cA, f, ty, h1, h2, -⟩ := hc
    refine ⟨cA, f, ty, h1, h2, fun j v _ hv => ?_⟩
    cases hv
    exact ⟨_, rfl⟩
  | 0, h, _ => cases h
  | 3, h, _ => cases h
  | _ + 6, h, _ => cases h
theorem zi_wide : zIok X own mn cc nL W0 cl ft G me (pc, 73, a, a1, a2) pc := by
  intro p l e R s m args below meth c Q D A ρ b ad0 k hC hF hL he hX
  show zres p l e R s m args below meth c Q D cl A ft ρ b nL ad0 me _ _ k (match z_cat k.2.2.1 a with
    | some c => (match z_wide c with
      | some c2 => zn_on k.1 k.2.1 (z_with k.2.2 a c2)
      | none => zn_bad k)
    | none => zn_bad k)
  cases hc : z_cat k.2.2.1 a with
  | none => exact trivial
  | some t =>
    dsimp only
    cases h2 : z_wide t with
    | none => exact trivial
    | some t2 =>
      intro _ _ kk ws tys H locs ls lv st hP hD hK hS hw had hl hlv hst
      obtain ⟨q, g1, g2⟩ := zw_get hw hc
      have hz := zw_put (a := q.1) (e := q.2) (e0 := q.2) hw g1 (z_wide_ok h2 g2)
      have hs : ws.set a (q.1, q.2) = ws := by
        refine List.ext_getElem? fun i => ?_
        by_cases hi : a = i
        · subst hi
          rw [List.getElem?_set_self (List.getElem?_eq_some_iff.mp g1).1, g1]
        · rw [List.getElem?_set_ne hi]
      rw [hs] at hz
      exact kk ws tys H locs ls lv st hP hD hK hS hz had hl hlv hst
theorem zi_stop : zIok X own mn cc nL W0 cl ft G me (pc, 78, a, a1, a2) pc := by
  intro p l e R s m args below meth c Q D A ρ b ad0 k hC hF hL he hX
  exact rfl
theorem zi_ifset {i : Fin 4} (hi : (i : Nat) = a) (hn : a + 1 < nL) (d0 : decode cc pc = .ok (.ifCond .eq 10, 3)) (d3 : decode cc (pc + 3) = .ok (.lload_n i, 1)) (d4 : decode cc (pc + 4) = .ok (.lconst 1, 1)) (d5 : decode cc (pc + 5) = .ok (.iload a1, 2)) (d7 : decode cc (pc + 7) = .ok (.lshl, 1)) (d8 : decode cc (pc + 8) = .ok (.lsub, 1)) (d9 : decode cc (pc + 9) = .ok (.lstore_n i, 1)) : zIok X own mn cc nL W0 cl ft G me (pc, 74, a, a1, a2) (pc + 10) := by
  intro p l e R s m args below meth c Q D A ρ b ad0 k hC hF hL he hX
  obtain ⟨hx, hb, hml, hown, hts, hA, hlocks, hmn⟩ := hC
  obtain ⟨ls0, st0, S⟩ := k
  match st0 with
  | [] => exact trivial
  | x :: st0 =>
    show zres p l e R s m args below meth c Q D cl A ft ρ b nL ad0 me _ _ _ (match z_get ls0 a, z_get ls0 a1 with
      | some v, some w => if z_isI x && z_eqv v (4, 0) && z_isI w && Nat.ble (z_cats st0) 2 && z_eql (z_set2 ls0 a (4, 0)) ls0 then zn_on ls0 st0 S else zn_bad (ls0, x :: st0, S)
      | _, _ => zn_bad (ls0, x :: st0, S))
    cases hv : z_get ls0 a with
    | none => exact trivial
    | some v =>
      cases hw9 : z_get ls0 a1 with
      | none => exact trivial
      | some w9 =>
        dsimp only
        split
        · rename_i ht
          simp only [Bool.and_eq_true] at ht
          obtain ⟨⟨⟨⟨t1, t2⟩, t3⟩, -⟩, t5⟩ := ht
          have t2 := z_eqv_ok t2
          have t5 := z_eql_ok t5
          subst t2
          intro _ _ kk ws tys H locs ls lv st hP hD hK hS hw had hl hlv hst
          match st, hst with
          | w :: st, hst =>
            obtain ⟨y, rfl⟩ := zv_I hst.1 t1
            obtain ⟨j1, u1, g1, g2⟩ := zl_get hlv hv
            obtain ⟨v9, rfl⟩ := g2
            obtain ⟨j2, u2, g3, g4⟩ := zl_get hlv hw9
            obtain ⟨b9, rfl⟩ := zv_I g4 t3
            refine lv_if_eq hx hb d0 (tgt := pc + 10) (by omega) (fun _ => kk ws tys H locs ls lv st hP hD hK hS hw had hl hlv hst.2) (fun _ => ?_)
            refine lv_lload_n hx hb d3 hi (lv_at hl j1 g1) ?_
            refine lv_lconst hx hb d4 rfl ?_
            refine lv_iload hx hb d5 (lv_at hl j2 g3) ?_
            refine lv_lshl hx hb d7 rfl ?_
            refine lv_lsub hx hb d8 ?_
            refine lv_lstore_n hx hb d9 hi hl hn rfl (fun ls' h' => ?_)
            have hz := fun (x9 : Int64) => zl_set2 (a := a) (v := (4, 0)) (w := .long x9) hlv ⟨x9, rfl⟩
            rw [t5] at hz
            exact kk ws tys H locs ls' _ st hP hD hK hS hw had h' (hz _) hst.2
        · exact trivial
end ZMO
section ZMB
variable {X : State → Nat → (Nat → Prop) → (Nat → Int32) → Prop} {QF : zQT} {Y : Nat → zY} {W0 : Nat → List Cond} {ET : Nat → List ExceptionTableEntry} {cl : List vw_C} {ft : List FieldType} {G : zG} {a pc a1 a2 a3 : Nat}
theorem z_bool_ok {k : Nat} (h : k ≤ 1) {ρ : Nat → Int32} {b : Nat} {ad : List Nat} : zv ρ b ad z_bool (.int (nI k)) := by
  have : k = 0 ∨ k = 1 := by omega
  rcases this with rfl | rfl
  · exact ⟨_, rfl, by decide +kernel, by decide +kernel⟩
  · exact ⟨_, rfl, by decide +kernel, by decide +kernel⟩
theorem zi_bret (hd : decode (Y a).2.1 pc = .ok (.ireturn, 1)) (hr : (Y a).2.2.2 = some .boolean) : zRok X QF Y W0 ET cl ft G a (pc, 68, a3, a1, a2) := by
  intro p l e R s m args below meth c D A ρ b ad0 k hC hst hET hret hF hL he hX
  obtain ⟨hx, hb, hml, hown, hts, hA, hlocks, hmn⟩ := hC
  obtain ⟨ls0, st0, S⟩ := k
  match st0 with
  | [] => exact trivial
  | _ :: _ :: _ => exact trivial
  | [v] =>
    by_cases ht : (Nat.beq v.1 0 && Nat.ble v.2 1) = true
    · have e1 : z_do G (pc, 68, a3, a1, a2) (ls0, [v], S) = (3, 0, z_bool, [], [], S) := by
        show (if (Nat.beq v.1 0 && Nat.ble v.2 1) then _ else _) = _
        rw [if_pos ht]
      rw [e1]
      simp only [Bool.and_eq_true] at ht
      intro ws tys H locs ls lv st hP hD hK hS hw had hl hlv hst9
      match st, hst9 with
      | [w], hst9 =>
        obtain ⟨t0, k⟩ := v
        have h0 := Nat.eq_of_beq_eq_true ht.1
        have h1 := Nat.le_of_ble_eq_true ht.2
        dsimp only at h0 h1
        subst h0
        have e2 : w = .int (nI k) := hst9.1
        subst e2
        have hn : narrow .boolean (.int (nI k)) = .int (nI k) := by
          have : k = 0 ∨ k = 1 := by omega
          rcases this with rfl | rfl <;> decide +kernel
        exact W.zret hx hb (hret.trans hr) hn (fun t ht hW => ⟨ws, tys, ⟨_, rfl, z_bool_ok h1⟩, by rw [ht]; exact hP, va_K.moved hW.alike hK, hD, hw, had, hS.F ht⟩) hS.2.2 hd hlocks
    · have e1 : z_do G (pc, 68, a3, a1, a2) (ls0, [v], S) = zn_bad (ls0, [v], S) := by
        show (if (Nat.beq v.1 0 && Nat.ble v.2 1) then _ else _) = _
        rw [if_neg ht]
      rw [e1]
      exact trivial
end ZMB
