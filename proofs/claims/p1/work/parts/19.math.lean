/-! MAX, MIN, THE FIRST CONSTRUCTOR, SWITCHES -/
theorem z_max_ok (m n : Nat) : (if nI m < nI n then nI n else nI m) = nI (z_max m n) := by
  unfold z_max
  have h : (nI m < nI n) ↔ Nat.blt (z_up m) (z_up n) = true := by
    rw [← zu_lt, zu_nI, zu_nI]
    exact ⟨fun h => Nat.ble_eq_true_of_le h, fun h => Nat.le_of_ble_eq_true h⟩
  by_cases h1 : nI m < nI n
  · rw [if_pos h1, if_pos (h.mp h1)]
  · rw [if_neg h1, if_neg (fun z => h1 (h.mpr z))]
theorem z_min_ok (m n : Nat) : (if nI n < nI m then nI n else nI m) = nI (z_min m n) := by
  unfold z_min
  have h : (nI n < nI m) ↔ Nat.blt (z_up n) (z_up m) = true := by
    rw [← zu_lt, zu_nI, zu_nI]
    exact ⟨fun h => Nat.ble_eq_true_of_le h, fun h => Nat.le_of_ble_eq_true h⟩
  by_cases h1 : nI n < nI m
  · rw [if_pos h1, if_pos (h.mp h1)]
  · rw [if_neg h1, if_neg (fun z => h1 (h.mpr z))]
/-- the places of a switch lie where the table says -/
def z_swok (me : zP) (pc : Nat) : List Int → List Nat → Bool
  | [], [] => true
  | o :: os, t :: ts => (match z_drop me.1 t with
    | y :: _ => decide ((pc : Int) + o = (y.1 : Int))
    | [] => false) && z_swok me pc os ts
  | _, _ => false
theorem z_swok_at {me : zP} {pc : Nat} : ∀ {os : List Int} {ts : List Nat} {j t : Nat}, z_swok me pc os ts = true → z_at ts j = some t → ∃ o y r, os[j]? = some o ∧ z_drop me.1 t = y :: r ∧ (pc : Int) + o = (y.1 : Int)
  | [], [], j, t, _, h => by cases h
  | [], _ :: _, j, t, h, _ => by cases h
  | _ :: _, [], j, t, h, _ => by cases h
  | o :: os, t0 :: ts, 0, t, h, h2 => by
    cases h2
    unfold z_swok at h
    simp only [Bool.and_eq_true] at h
    cases hq : z_drop me.1 t0 with
    | nil => rw [hq] at h; cases h.1
    | cons y r =>
      rw [hq] at h
      exact ⟨o, y, r, rfl, rfl, of_decide_eq_true h.1⟩
  | o :: os, t0 :: ts, j + 1, t, h, h2 => by
    unfold z_swok at h
    simp only [Bool.and_eq_true] at h
    obtain ⟨o2, y, r, g1, g2, g3⟩ := z_swok_at (os := os) (ts := ts) (j := j) h.2 h2
    exact ⟨o2, y, r, by simpa using g1, g2, g3⟩
theorem z_swok_len {me : zP} {pc : Nat} : ∀ {os : List Int} {ts : List Nat}, z_swok me pc os ts = true → os.length = ts.length
  | [], [], _ => rfl
  | [], _ :: _, h => by cases h
  | _ :: _, [], h => by cases h
  | o :: os, t :: ts, h => by
    unfold z_swok at h
    simp only [Bool.and_eq_true] at h
    rw [List.length_cons, List.length_cons, z_swok_len h.2]
section ZMA
variable {X : State → Nat → (Nat → Prop) → (Nat → Int32) → Prop} {own mn : String} {cc : ByteArray} {nL : Nat} {W0 : List Cond} {cl : List vw_C} {ft : List FieldType} {G : zG} {me : zP} {pc a a1 a2 a3 : Nat}
theorem zi_max {i : Nat} (hd : decode cc pc = .ok (.invokestatic i, 3)) (h1 : Cond.methodLink own i Lib.Math.max.name ∈ W0) (h2 : Cond.static Lib.Math.max.name ∈ W0) (h3 : Cond.initialized "java/lang/Math" ∈ W0) (h4 : Cond.code Lib.Math.max.name Lib.Math.max.code 2 (some .int) ∈ W0) : zIok X own mn cc nL W0 cl ft G me (pc, 57, a, a1, a2) (pc + 3) := by
  intro p l e R s m args below meth c Q D A ρ b ad0 k hC hF hL he hX
  obtain ⟨hx, hb, hml, hown, hts, hA, hlocks, hmn⟩ := hC
  obtain ⟨ls0, st0, S⟩ := k
  match st0 with
  | [] => exact trivial
  | [_] => exact trivial
  | y :: x :: st0 =>
    show zres p l e R s m args below meth c Q D cl A ft ρ b nL ad0 me _ _ _ (if z_isI x && z_isI y && Nat.ble (z_cats st0) 8 then zn_on ls0 (z_i2 G.2.2.2 z_max x y :: st0) S else zn_bad (ls0, y :: x :: st0, S))
    by_cases ht : (z_isI x && z_isI y && Nat.ble (z_cats st0) 8) = true
    · rw [if_pos ht]
      simp only [Bool.and_eq_true] at ht
      intro r1 r2 kk ws tys H locs ls lv st hP hD hK hS hw had hl hlv hst
      match st, hst with
      | w2 :: w :: st, hst =>
        obtain ⟨i2, rfl⟩ := zv_I hst.1 ht.1.2
        obtain ⟨i1, rfl⟩ := zv_I hst.2.1 ht.1.1
        have hcat := z_cats_eq hst.2.2
        have h8 : z_cats st0 ≤ 8 := Nat.le_of_ble_eq_true ht.2
        exact va_mmax hx hb (hml.trans hl.1.symm) hown (hts _ h1) (hts _ h2) (hts _ h3) (hts _ h4) hF (by omega) r1 r2 hd (kk ws tys H locs ls lv _ hP hD hK hS hw had hl hlv ⟨z_i2_ok (op := fun x y => if x < y then y else x) z_max_ok he hst.2.1 hst.1, hst.2.2⟩)
    · rw [if_neg ht]
      exact trivial
theorem zi_min {i : Nat} (hd : decode cc pc = .ok (.invokestatic i, 3)) (h1 : Cond.methodLink own i Lib.Math.min.name ∈ W0) (h2 : Cond.static Lib.Math.min.name ∈ W0) (h3 : Cond.initialized "java/lang/Math" ∈ W0) (h4 : Cond.code Lib.Math.min.name Lib.Math.min.code 2 (some .int) ∈ W0) : zIok X own mn cc nL W0 cl ft G me (pc, 58, a, a1, a2) (pc + 3) := by
  intro p l e R s m args below meth c Q D A ρ b ad0 k hC hF hL he hX
  obtain ⟨hx, hb, hml, hown, hts, hA, hlocks, hmn⟩ := hC
  obtain ⟨ls0, st0, S⟩ := k
  match st0 with
  | [] => exact trivial
  | [_] => exact trivial
  | y :: x :: st0 =>
    show zres p l e R s m args below meth c Q D cl A ft ρ b nL ad0 me _ _ _ (if z_isI x && z_isI y && Nat.ble (z_cats st0) 8 then zn_on ls0 (z_i2 G.2.2.2 z_min x y :: st0) S else zn_bad (ls0, y :: x :: st0, S))
    by_cases ht : (z_isI x && z_isI y && Nat.ble (z_cats st0) 8) = true
    · rw [if_pos ht]
      simp only [Bool.and_eq_true] at ht
      intro r1 r2 kk ws tys H locs ls lv st hP hD hK hS hw had hl hlv hst
      match st, hst with
      | w2 :: w :: st, hst =>
        obtain ⟨i2, rfl⟩ := zv_I hst.1 ht.1.2
        obtain ⟨i1, rfl⟩ := zv_I hst.2.1 ht.1.1
        have hcat := z_cats_eq hst.2.2
        have h8 : z_cats st0 ≤ 8 := Nat.le_of_ble_eq_true ht.2
        exact va_mmin hx hb (hml.trans hl.1.symm) hown (hts _ h1) (hts _ h2) (hts _ h3) (hts _ h4) hF (by omega) r1 r2 hd (kk ws tys H locs ls lv _ hP hD hK hS hw had hl hlv ⟨z_i2_ok (op := fun x y => if y < x then y else x) z_min_ok he hst.2.1 hst.1, hst.2.2⟩)
    · rw [if_neg ht]
      exact trivial
theorem zi_obj {i : Nat} (hd : decode cc pc = .ok (.invokespecial i, 3)) (h1 : Cond.methodLink own i Lib.objectInit ∈ W0) (h2 : Cond.instanceMethod Lib.objectInit ∈ W0) (h3 : Cond.code Lib.objectInit ⟨#[0xb1]⟩ 1 none ∈ W0) : zIok X own mn cc nL W0 cl ft G me (pc, 60, a, a1, a2) (pc + 3) := by
  intro p l e R s m args below meth c Q D A ρ b ad0 k hC hF hL he hX
  obtain ⟨hx, hb, hml, hown, hts, hA, hlocks, hmn⟩ := hC
  obtain ⟨ls0, st0, S⟩ := k
  match st0 with
  | [] => exact trivial
  | x :: st0 =>
    show zres p l e R s m args below meth c Q D cl A ft ρ b nL ad0 me _ _ _ (if Nat.beq x.1 6 && Nat.ble (z_cats st0) 8 then zn_on ls0 st0 S else zn_bad (ls0, x :: st0, S))
    by_cases ht : (Nat.beq x.1 6 && Nat.ble (z_cats st0) 8) = true
    · rw [if_pos ht]
      simp only [Bool.and_eq_true] at ht
      intro r1 r2 kk ws tys H locs ls lv st hP hD hK hS hw had hl hlv hst
      match st, hst with
      | w :: st, hst =>
        obtain ⟨x1, x2⟩ := x
        have h6 : x1 = 6 := Nat.eq_of_beq_eq_true ht.1
        subst h6
        obtain ⟨o, -, rfl⟩ := hst.1
        have hcat := z_cats_eq hst.2
        have h8 : z_cats st0 ≤ 8 := Nat.le_of_ble_eq_true ht.2
        exact W.objInit hx hb hown (hts _ h1) (hts _ h2) (hts _ h3) (g := F0 m pc ls (.ref o :: st)) rfl (hl.1.trans hml.symm) rfl hd hF (by show 2 * 0 + _ + 12 ≤ _; omega) (kk ws tys H locs ls lv _ hP hD hK hS hw had hl hlv hst.2)
    · rw [if_neg ht]
      exact trivial
theorem zi_switch {dflt hi : Int} {offs : Array Int} {len df lo : Nat} {tg : List Nat} (hd : decode cc pc = .ok (.tableswitch dflt (lo : Int) hi offs, len)) (ht : z_at me.2.2 a = some (df, lo, tg)) (hhi : hi = (lo : Int) + (tg.length : Int) - 1) (h1 : z_swok me pc [dflt] [df] = true) (h2 : z_swok me pc offs.toList tg = true) : zIok X own mn cc nL W0 cl ft G me (pc, 40, a, a1, a2) a3 := by
  intro p l e R s m args below meth c Q D A ρ b ad0 k hC hF hL he hX
  obtain ⟨hx, hb, hml, hown, hts, hA, hlocks, hmn⟩ := hC
  obtain ⟨ls0, st0, S⟩ := k
  match st0 with
  | [] => exact trivial
  | x :: st0 =>
    show zres p l e R s m args below meth c Q D cl A ft ρ b nL ad0 me _ _ _ (match z_kn G.2.2.2 x with
      | some n => if Nat.blt n z_31 then (8, n, (a, 0), ls0, st0, S) else zn_bad (ls0, x :: st0, S)
      | none => (match z_rg G.2.2.2 x with
        | some u => zn_cut (x.2, u.1 + 1) (ls0, x :: st0, S)
        | none => zn_bad (ls0, x :: st0, S)))
    cases hk : z_kn G.2.2.2 x with
    | none =>
      dsimp only
      split <;> exact trivial
    | some n =>
      dsimp only
      by_cases hn : Nat.blt n z_31 = true
      · rw [if_pos hn]
        have hn : n < 2147483648 := Nat.le_of_ble_eq_true hn
        show (∀ y r, z_drop me.1 (z_sw me a n) = y :: r → zgo p l e R s m args below meth c Q D cl A ft ρ b nL ad0 y.1 (ls0, st0, S)) → _
        intro kk ws tys H locs ls lv st hP hD hK hS hw had hl hlv hst
        match st, hst with
        | w :: st, hst =>
          have e1 := zv_kn he hst.1 hk
          subst e1
          have hni : (nI n).toInt = (n : Int) := nI_toInt hn
          have hsw : z_sw me a n = if Nat.blt n lo then df else (z_at tg (n - lo)).getD df := by
            unfold z_sw
            rw [ht]
          have out : (n : Int) < (lo : Int) ∨ hi < (n : Int) → z_sw me a n = df → W p l e R s m args below meth c H locs S.2.2.1 S.2.2.2 Q (F0 m pc ls (.int (nI n) :: st)) := by
            intro ho es
            obtain ⟨o, y, r, g1, g2, g3⟩ := z_swok_at (j := 0) h1 rfl
            cases g1
            exact lv_tableOut hx hb hd (by rw [hni]; exact ho) g3 (kk y r (by rw [es]; exact g2) ws tys H locs ls lv st hP hD hK hS hw had hl hlv hst.2)
          by_cases hlo : Nat.blt n lo = true
          · rw [if_pos hlo] at hsw
            have hlo : n < lo := Nat.le_of_ble_eq_true hlo
            exact out (Or.inl (by omega)) hsw
          · rw [if_neg hlo] at hsw
            have hlo : lo ≤ n := Nat.le_of_not_lt (fun z => hlo (Nat.ble_eq_true_of_le z))
            cases hz : z_at tg (n - lo) with
            | none =>
              rw [hz] at hsw
              have hle : tg.length ≤ n - lo := by
                rw [z_at_get] at hz
                exact List.getElem?_eq_none_iff.mp hz
              exact out (Or.inr (by omega)) hsw
            | some t =>
              rw [hz] at hsw
              have hlt : n - lo < tg.length := by
                rw [z_at_get] at hz
                exact (List.getElem?_eq_some_iff.mp hz).1
              obtain ⟨o, y, r, g1, g2, g3⟩ := z_swok_at h2 hz
              refine lv_tableIn hx hb hd (off := o) (tgt := y.1) (by rw [hni]; omega) (by rw [hni]; omega) ?_ g3 (kk y r (by rw [hsw]; exact g2) ws tys H locs ls lv st hP hD hK hS hw had hl hlv hst.2)
              rw [hni]
              have e2 : ((n : Int) - (lo : Int)).toNat = n - lo := by omega
              rw [e2, ← Array.getElem?_toList]
              exact g1
      · rw [if_neg hn]
        exact trivial
end ZMA
