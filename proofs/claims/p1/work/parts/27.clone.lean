/-! A COPY OF A ROW OF INTS -/
theorem z_tq0 {ft : List FieldType} {ρ : Nat → Int32} {b : Nat} {S : zS} {ws : va_W} {tys : List (ClassId × FieldType)} {k : Nat} {cA : ClassId} {ty : FieldType} (hw : zw ft ρ b S ws tys) (h : z_tq S.2.1 k 0 0 = true) (ht : tys[k]? = some (cA, ty)) : ty = .int := by
  unfold z_tq at h
  cases hz : z_at S.2.1 k with
  | none => rw [hz] at h; cases h
  | some w =>
    rw [hz] at h
    simp only [Bool.or_self] at h
    have h := Nat.eq_of_beq_eq_true h
    subst h
    have h2 : (tys.map (fun q => q.2))[k]? = (S.2.1.map (z_ty ft))[k]? := by rw [hw.2.1]
    rw [List.getElem?_map, List.getElem?_map, ht, ← z_at_get, hz] at h2
    exact Option.some.inj h2
section ZCN
variable {X : State → Nat → (Nat → Prop) → (Nat → Int32) → Prop} {own mn : String} {cc : ByteArray} {nL : Nat} {W0 : List Cond} {cl : List vw_C} {ft : List FieldType} {G : zG} {me : zP} {pc a a1 a2 : Nat}
theorem zi_clone {i : Nat} (hd : decode cc pc = .ok (.invokevirtual i, 3)) (hl : Cond.methodLink own i ⟨"[I", "clone", "()Ljava/lang/Object;"⟩ ∈ W0) (hsame : Cond.sameMethod "[I" "java/lang/Object" "clone" "()Ljava/lang/Object;" ∈ W0) (hnat : Cond.native ⟨"java/lang/Object", "clone", "()Ljava/lang/Object;"⟩ ∈ W0) (hinst : Cond.instanceMethod ⟨"java/lang/Object", "clone", "()Ljava/lang/Object;"⟩ ∈ W0)
    (hsel : Cond.selects "[I" ⟨"[I", "clone", "()Ljava/lang/Object;"⟩ ⟨"java/lang/Object", "clone", "()Ljava/lang/Object;"⟩ ∈ W0) (hcl : Cond.castable "[I" "java/lang/Cloneable" ∈ W0) : zIok X own mn cc nL W0 cl ft G me (pc, 59, a, a1, a2) (pc + 3) := by
  intro p l e R s m args below meth c Q D A ρ b ad0 k hC hF hL he hX
  obtain ⟨hx, hb, hml, hown, hts, hA, hlocks, hmn⟩ := hC
  obtain ⟨ls0, st0, S⟩ := k
  match st0 with
  | [] => exact trivial
  | x :: st0 =>
    show zres p l e R s m args below meth c Q D cl A ft ρ b nL ad0 me _ _ _ (match z_cat S.1 x.2 with
      | some t => if Nat.beq x.1 6 && Nat.beq t.1 1 && z_tq S.2.1 t.2.1 0 0 && Nat.ble (z_cats st0) 8 then zn_on ls0 ((6, z_clen S.1) :: st0) (z_madeT S (1, z_len S.2.1, t.2.2.1, t.2.2.2) 0 t.2.2.1) else zn_bad (ls0, x :: st0, S)
      | none => zn_bad (ls0, x :: st0, S))
    cases hq : z_cat S.1 x.2 with
    | none => exact trivial
    | some t =>
      dsimp only
      split
      · rename_i ht
        simp only [Bool.and_eq_true] at ht
        obtain ⟨⟨⟨t1, t2⟩, t3⟩, t4⟩ := ht
        intro r1 r2 kk ws tys H locs ls lv st hP hD hK hS hw had hl9 hlv hst
        match st, hst with
        | w :: st, hst =>
          obtain ⟨x1, x2⟩ := x
          have h6 : x1 = 6 := Nat.eq_of_beq_eq_true t1
          subst h6
          obtain ⟨o, ho, rfl⟩ := hst.1
          obtain ⟨q2, g1, g2⟩ := zw_get hw hq
          obtain ⟨t9, tk, tn, tl⟩ := t
          have h1 : t9 = 1 := Nat.eq_of_beq_eq_true t2
          subst h1
          obtain ⟨cA, f, ty, g3, g4, g5⟩ := g2
          obtain ⟨q21, q22⟩ := q2
          dsimp only at g3
          subst g3
          rw [List.getElem?_map, g1] at ho
          cases ho
          have ety : ty = .int := z_tq0 hw t3 g4
          subst ety
          have hcat := z_cats_eq hst.2
          have h8 : z_cats st0 ≤ 8 := Nat.le_of_ble_eq_true t4
          refine va_clone hx hb (hml.trans hl9.1.symm) hown (hts _ hl) (hts _ hsame) (hts _ hnat) (hts _ hinst) (hts _ hsel) (va_Nw.of rfl (hts _ hcl)) hK hP hD hS hA x2 tk g1 g4 (va_nm_int (hK.2 _ _ g4).2) (fun j v hv => va_fit (fun _ _ => rfl) j v hv) hF (by omega) r1 r2 hd (fun q H1 hK1 hP1 hD1 hS1 => ?_)
          have hlen : tys.length = z_len S.2.1 := by
            rw [z_len_eq]
            have := congrArg List.length hw.2.1
            rwa [List.length_map, List.length_map] at this
          have hz : zw ft ρ b (z_madeT S (1, z_len S.2.1, tn, tl) 0 tn) (ws ++ [(q, .inl (cA, (tn, .inl f)))]) (tys ++ [(cA, .int)]) :=
            zw_add (a := q) (e := .inl (cA, (tn, .inl f))) (tx := [(cA, .int)]) (tn := [0]) (n := S.2.2.1 + 1) (m := S.2.2.2 + tn) (c := (1, z_len S.2.1, tn, tl)) hw rfl ⟨cA, f, .int, rfl, by rw [← hlen, List.getElem?_concat_length], fun j v hv => zv_more (g5 j v hv) (z_pre ws _)⟩
          refine kk _ _ H1 locs ls lv _ hP1 hD1 hK1 hS1 hz (fun i a h => z_pre ws _ _ _ (had i a h)) hl9 (zl_moreL (z_pre ws _) hlv) ⟨⟨q, ?_, rfl⟩, zl_more (z_pre ws _) hst.2⟩
          show ((ws ++ [(q, (.inl (cA, (tn, .inl f)) : va_E))]).map (fun q => q.1))[z_clen S.1]? = some q
          rw [z_clen_eq, ← hw.2.2.1]
          exact z_last_at ws _
      · exact trivial
theorem zi_cast {i : Nat} (hd : decode cc pc = .ok (.checkcast i, 3)) (hl : Cond.classLink own i "[I" ∈ W0) : zIok X own mn cc nL W0 cl ft G me (pc, 67, a, a1, a2) (pc + 3) := by
  intro p l e R s m args below meth c Q D A ρ b ad0 k hC hF hL he hX
  obtain ⟨hx, hb, hml, hown, hts, hA, hlocks, hmn⟩ := hC
  obtain ⟨ls0, st0, S⟩ := k
  match st0 with
  | [] => exact trivial
  | x :: st0 =>
    show zres p l e R s m args below meth c Q D cl A ft ρ b nL ad0 me _ _ _ (match z_cat S.1 x.2 with
      | some t => if Nat.beq x.1 6 && Nat.beq t.1 1 && z_tq S.2.1 t.2.1 0 0 then zn_on ls0 (x :: st0) S else zn_bad (ls0, x :: st0, S)
      | none => zn_bad (ls0, x :: st0, S))
    cases hq : z_cat S.1 x.2 with
    | none => exact trivial
    | some t =>
      dsimp only
      split
      · rename_i ht
        simp only [Bool.and_eq_true] at ht
        obtain ⟨⟨t1, t2⟩, t3⟩ := ht
        intro r1 r2 kk ws tys H locs ls lv st hP hD hK hS hw had hl9 hlv hst
        match st, hst with
        | w :: st, hst =>
          have hst0 := hst
          obtain ⟨x1, x2⟩ := x
          have h6 : x1 = 6 := Nat.eq_of_beq_eq_true t1
          subst h6
          obtain ⟨o, ho, rfl⟩ := hst.1
          obtain ⟨q2, g1, g2⟩ := zw_get hw hq
          obtain ⟨t9, tk, tn, tl⟩ := t
          have h1 : t9 = 1 := Nat.eq_of_beq_eq_true t2
          subst h1
          obtain ⟨cA, f, ty, g3, g4, g5⟩ := g2
          obtain ⟨q21, q22⟩ := q2
          dsimp only at g3
          subst g3
          rw [List.getElem?_map, g1] at ho
          cases ho
          have ety : ty = .int := z_tq0 hw t3 g4
          subst ety
          exact va_castA hx hb hown (hts _ hl) hP x2 g1 (va_nm_int (hK.2 _ _ g4).2) hd (kk ws tys H locs ls lv _ hP hD hK hS hw had hl9 hlv hst0)
      · exact trivial
end ZCN
