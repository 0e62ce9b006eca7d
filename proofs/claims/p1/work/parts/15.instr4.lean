/-! ROWS OF REFERENCES AND NEW THINGS -/
/-- the numbers of element types name the classes -/
def zft_ok (G : zG) (cl : List vw_C) (ft : List FieldType) : Prop := ∀ w ci : Nat, z_at G.2.1 w = some (ci + 1) → ∃ r, cl[ci]? = some r ∧ z_ty ft w = .object r.1
theorem z_cls_ok {G : zG} {cl : List vw_C} {ft : List FieldType} {tys : List Nat} {k ci : Nat} (h : zft_ok G cl ft) (hc : z_cls G tys k = ci + 1) : ∃ w, z_at tys k = some w ∧ ∃ r, cl[ci]? = some r ∧ z_ty ft w = .object r.1 := by
  unfold z_cls at hc
  cases hw : z_at tys k with
  | none => rw [hw] at hc; cases hc
  | some w =>
    rw [hw] at hc
    dsimp only at hc
    cases hn : z_at G.2.1 w with
    | none => rw [hn] at hc; cases hc
    | some n =>
      rw [hn] at hc
      dsimp only at hc
      subst hc
      exact ⟨w, rfl, h w ci hn⟩
/-- what may lie in a row of references: null, or an object of just that class -/
def z_okA (cl : List vw_C) (ty : FieldType) (k : Option Nat) : Prop := match k with
  | none => ∃ C, ty = .object C
  | some ci => ∃ r, cl[ci]? = some r ∧ ty = .object r.1
section ZN
variable {X : State → Nat → (Nat → Prop) → (Nat → Int32) → Prop} {own mn : String} {cc : ByteArray} {nL : Nat} {W0 : List Cond} {cl : List vw_C} {ft : List FieldType} {G : zG} {me : zP} {pc a a1 a2 a3 : Nat}
theorem zi_aald (hft : zft_ok G cl ft) (hd : decode cc pc = .ok (.aaload, 1)) : zIok X own mn cc nL W0 cl ft G me (pc, 19, a, a1, a2) (pc + 1) := by
  intro p l e R s m args below meth c Q D A ρ b ad0 k hC hF hL he hX
  obtain ⟨hx, hb, hml, hown, hts, hA, hlocks, hmn⟩ := hC
  obtain ⟨ls0, st0, S⟩ := k
  match st0 with
  | [] => exact trivial
  | [_] => exact trivial
  | y :: x :: st0 =>
    show zres p l e R s m args below meth c Q D cl A ft ρ b nL ad0 me _ _ _ (match z_cat S.1 x.2 with
      | none => zn_bad (ls0, y :: x :: st0, S)
      | some t => if Nat.beq x.1 6 && (Nat.beq t.1 6 || Nat.beq t.1 8) && Nat.blt 0 (z_cls G S.2.1 t.2.1) then (match z_kn G.2.2.2 y with
        | some j => (match z_ald t j with
          | some v => zn_on ls0 (v :: st0) S
          | none => zn_bad (ls0, y :: x :: st0, S))
        | none => if z_alike t G.2.2.2 y then (match z_at t.2.2.2 0 with
          | some v => zn_on ls0 (v :: st0) S
          | none => zn_bad (ls0, y :: x :: st0, S)) else z_icut G.2.2.2 y (ls0, y :: x :: st0, S)) else zn_bad (ls0, y :: x :: st0, S))
    cases hq : z_cat S.1 x.2 with
    | none => exact trivial
    | some t =>
      dsimp only
      split
      · rename_i ht
        simp only [Bool.and_eq_true] at ht
        obtain ⟨⟨t1, t2⟩, t3⟩ := ht
        have h6 : x.1 = 6 := Nat.eq_of_beq_eq_true t1
        have h0 : t.1 = 6 ∨ t.1 = 8 := by
          simp only [Bool.or_eq_true] at t2
          rcases t2 with t2 | t2
          · exact Or.inl (Nat.eq_of_beq_eq_true t2)
          · exact Or.inr (Nat.eq_of_beq_eq_true t2)
        have t3 : 0 < z_cls G S.2.1 t.2.1 := Nat.le_of_ble_eq_true t3
        have hok : ∃ w, z_at S.2.1 t.2.1 = some w ∧ (fun ty => ∃ C, ty = FieldType.object C) (z_ty ft w) := by
          obtain ⟨w, g1, r, g2, g3⟩ := z_cls_ok (tys := S.2.1) (k := t.2.1) (ci := z_cls G S.2.1 t.2.1 - 1) hft (by omega)
          exact ⟨w, g1, r.1, g3⟩
        have hr : z_aaRow p l e R s m args below meth c Q D cl pc (pc + 1) (fun ty => ∃ C, ty = FieldType.object C) := by
          intro H locs cells slots ls st ws tys q t0 o N cA ty f i hP hK h1 h2 h3 h4 k9
          obtain ⟨C, rfl⟩ := h3
          exact va_aldq hx hb hK hP q t0 h1 h2 h4 hd k9
        cases hy : z_kn G.2.2.2 y with
        | some j =>
          dsimp only
          cases hv : z_ald t j with
          | none => exact trivial
          | some v =>
            intro _ _ kk
            exact zk_aald _ he hq h6 h0 hok hy hv hr kk
        | none =>
          dsimp only
          split
          · rename_i hal
            cases hv : z_at t.2.2.2 0 with
            | none => exact trivial
            | some v =>
              intro _ _ kk
              have h02 : t.1 = 8 := by
                have h9 := hal
                unfold z_alike at h9
                simp only [Bool.and_eq_true, Bool.or_eq_true] at h9
                rcases h9.1 with (h9 | h9) | h9
                · have h9 := Nat.eq_of_beq_eq_true h9
                  omega
                · have h9 := Nat.eq_of_beq_eq_true h9
                  omega
                · have h9 := Nat.eq_of_beq_eq_true h9
                  omega
              exact zk_aaldR _ he hq h6 h02 hok hal hv hr kk
          · unfold z_icut
            split
            · split <;> exact trivial
            · exact trivial
      · exact trivial
theorem zi_aast (hft : zft_ok G cl ft) (hd : decode cc pc = .ok (.aastore, 1)) : zIok X own mn cc nL W0 cl ft G me (pc, 33, a, a1, a2) (pc + 1) := by
  intro p l e R s m args below meth c Q D A ρ b ad0 k hC hF hL he hX
  obtain ⟨hx, hb, hml, hown, hts, hA, hlocks, hmn⟩ := hC
  obtain ⟨ls0, st0, S⟩ := k
  match st0 with
  | [] => exact trivial
  | [_] => exact trivial
  | [_, _] => exact trivial
  | v :: y :: x :: st0 =>
    show zres p l e R s m args below meth c Q D cl A ft ρ b nL ad0 me _ _ _ (match z_kn G.2.2.2 y, z_cat S.1 x.2 with
      | some j, some t => if Nat.beq x.1 6 && Nat.beq t.1 6 && z_aok (ls0, v :: y :: x :: st0, S) (z_cls G S.2.1 t.2.1) v then (match z_aast t j v with
        | some t2 => zn_on ls0 st0 (z_with S x.2 t2)
        | none => zn_bad (ls0, v :: y :: x :: st0, S)) else zn_bad (ls0, v :: y :: x :: st0, S)
      | _, _ => zn_bad (ls0, v :: y :: x :: st0, S))
    cases hy : z_kn G.2.2.2 y with
    | none => exact trivial
    | some j =>
      cases hq : z_cat S.1 x.2 with
      | none => exact trivial
      | some t =>
        dsimp only
        split
        · rename_i ht
          simp only [Bool.and_eq_true] at ht
          obtain ⟨⟨t1, t2⟩, t3⟩ := ht
          cases hv : z_aast t j v with
          | none => exact trivial
          | some t9 =>
            intro _ _ kk
            have key : (v.1 = 5 ∨ (v.1 = 6 ∧ ∃ u, z_cat S.1 v.2 = some u ∧ u.1 = 0 ∧ ∃ w, z_at S.2.1 t.2.1 = some w ∧ z_okA cl (z_ty ft w) (some u.2.1))) ∧ (v.1 = 5 → ∃ w, z_at S.2.1 t.2.1 = some w ∧ z_okA cl (z_ty ft w) none) := by
              obtain ⟨k5, k6⟩ := v
              unfold z_aok at t3
              match k5, t3 with
              | 5, t3 =>
                have t3 : 0 < z_cls G S.2.1 t.2.1 := Nat.le_of_ble_eq_true t3
                refine ⟨Or.inl rfl, fun _ => ?_⟩
                obtain ⟨w, g1, r, g2, g3⟩ := z_cls_ok (tys := S.2.1) (k := t.2.1) (ci := z_cls G S.2.1 t.2.1 - 1) hft (by omega)
                exact ⟨w, g1, r.1, g3⟩
              | 6, t3 =>
                refine ⟨Or.inr ⟨rfl, ?_⟩, fun h => absurd (show (6 : Nat) = 5 from h) (by decide)⟩
                dsimp only at t3 ⊢
                cases hu : z_cat S.1 k6 with
                | none => rw [hu] at t3; cases t3
                | some u =>
                  rw [hu] at t3
                  simp only [Bool.and_eq_true] at t3
                  obtain ⟨w, g1, r, g2, g3⟩ := z_cls_ok (tys := S.2.1) (k := t.2.1) (ci := u.2.1) hft (Nat.eq_of_beq_eq_true t3.2)
                  exact ⟨u, rfl, Nat.eq_of_beq_eq_true t3.1, w, g1, r, g2, g3⟩
            refine zk_aast (z_okA cl) he hq (Nat.eq_of_beq_eq_true t1) (Nat.eq_of_beq_eq_true t2) key.1 key.2 hy hv (fun H locs cells slots ls st ws tys q t0 o N cA ty f i w k hP hD hK hS h1 h2 h3 h5 h4 k9 => ?_) kk
            match k, w, h3, h5 with
            | none, none, h3, _ =>
              obtain ⟨C, rfl⟩ := h3
              exact va_astqN hx hb hK hP hD hS q t0 h1 h2 h4 hd k9
            | some ci, some o2, h3, h5 =>
              obtain ⟨r, g1, rfl⟩ := h3
              obtain ⟨qk, vs, g2⟩ := h5
              exact va_astq hx hb hK hP hD hS q t0 qk ci h1 h2 g2 g1 h4 hd k9
            | none, some _, _, h5 => exact h5.elim
            | some _, none, _, h5 => exact h5.elim
        · exact trivial
theorem zi_new {i N : Nat} {C : String} {T : u_T} {ty0 : Nat → FieldType} {ds : List Nat} (hd : decode cc pc = .ok (.new i, 3)) (hc : cl[a]? = some (C, T, N)) (hin : ∀ w ∈ u_ws C T N, w ∈ W0) (hty : ∀ k, k < N → parseFieldDescriptor (T k).2.2.1 = some (ty0 k)) (hcl : Cond.classLink own i C ∈ W0) (hinst : Cond.instantiable C N ∈ W0) (hini : Cond.initialized C ∈ W0) (hN : a2 = N) (hds : z_at G.1.1 a = some ds) (hdl : ds.length = N)
    (hdf : ∀ k, k < N → (ds[k]? = some 0 ∧ defaultValue (ty0 k) = .int 0) ∨ (ds[k]? = some 1 ∧ defaultValue (ty0 k) = .long 0) ∨ (ds[k]? = some 2 ∧ defaultValue (ty0 k) = .null)) : zIok X own mn cc nL W0 cl ft G me (pc, 17, a, a1, a2) (pc + 3) := by
  intro p l e R s m args below meth c Q D A ρ b ad0 k hC hF hL he hX
  obtain ⟨hx, hb, hml, hown, hts, hA, hlocks, hmn⟩ := hC
  show zres p l e R s m args below meth c Q D cl A ft ρ b nL ad0 me _ _ k (match z_at G.1.1 a with
    | some ds => zn_on k.1 ((6, z_clen k.2.2.1) :: k.2.1) (z_made k.2.2 (0, a, 0, ds.map z_dflt) a2)
    | none => zn_bad k)
  rw [hds]
  intro r1 r2 kk
  subst hN
  have hfs : ∀ k, k < a2 → ∃ v, (ds.map z_dflt)[k]? = some v ∧ zv ρ b [] v (defaultValue (ty0 k)) := by
    intro k hk
    rcases hdf k hk with ⟨g1, g2⟩ | ⟨g1, g2⟩ | ⟨g1, g2⟩
    · exact ⟨(0, 0), by rw [List.getElem?_map, g1]; rfl, by rw [g2]; exact congrArg Value.int nI_0.symm⟩
    · exact ⟨(3, 0), by rw [List.getElem?_map, g1]; rfl, by rw [g2]; exact congrArg Value.long (show (0 : Int64) = lN 0 by decide +kernel)⟩
    · exact ⟨(5, 0), by rw [List.getElem?_map, g1]; rfl, by rw [g2]; exact rfl⟩
  have hzl : zl (zv ρ b []) (ds.map z_dflt) ((List.range a2).map (fun k => defaultValue (ty0 k))) := by
    have key : ∀ (l1 : List zV) (l2 : List Value), l1.length = l2.length → (∀ (k : Nat) (v : zV) (w : Value), l1[k]? = some v → l2[k]? = some w → zv ρ b [] v w) → zl (zv ρ b []) l1 l2 := by
      intro l1
      induction l1 with
      | nil => intro l2 h1 _; cases l2 with
        | nil => exact trivial
        | cons _ _ => cases h1
      | cons x l1 ih => intro l2 h1 h2; cases l2 with
        | nil => cases h1
        | cons y l2 => exact ⟨h2 0 x y rfl rfl, ih l2 (Nat.succ.inj h1) (fun k v w g1 g2 => h2 (k + 1) v w (by simpa using g1) (by simpa using g2))⟩
    refine key _ _ (by rw [List.length_map, List.length_map, List.length_range, hdl]) (fun k v w g1 g2 => ?_)
    have hk : k < a2 := by
      have := (List.getElem?_eq_some_iff.mp g2).1
      rwa [List.length_map, List.length_range] at this
    obtain ⟨v2, g3, g4⟩ := hfs k hk
    rw [g3] at g1
    cases g1
    rw [List.getElem?_map, List.getElem?_range hk] at g2
    cases g2
    exact g4
  refine zk_new (ds := ds) (N := a2) (fun H locs cells slots ls st ws tys hP hD hK hS hR1 hR2 k9 => ?_) r1 r2 kk
  refine va_new (ci := a) (fs := (List.range a2).map (fun k => defaultValue (ty0 k))) hx hb hts hin ty0 hty hown (hts _ hcl) (hts _ hinst) (hts _ hini) hK hP hD hS hA hc (fun j hj => ?_) hR1 hR2 hd (fun q H1 hP1 hD1 hS1 => k9 q H1 _ hzl hP1 hD1 hS1)
  unfold vp_V
  rw [List.getD_eq_getElem?_getD, List.getElem?_map, List.getElem?_range hj]
  rfl
theorem z_small {N : Nat} (h : Nat.blt N 1000000 = true) : ¬ nI N < 0 ∧ (nI N).toNatClampNeg = N ∧ N < 1000000 := by
  have h : N < 1000000 := Nat.le_of_ble_eq_true h
  exact ⟨nI_pos (by omega), nI_clamp (by omega), h⟩
theorem zi_newI {ty : ArrayType} (hd : decode cc pc = .ok (.newarray ty, 2)) (hw : Cond.arrayClass (newarray.typeOf ty) ∈ W0) (ha : a = 0) (hty : newarray.typeOf ty = z_ty ft a1) (hk : componentBytes (newarray.typeOf ty) ≤ 8) (hdf : defaultValue (newarray.typeOf ty) = .int 0) : zIok X own mn cc nL W0 cl ft G me (pc, 12, a, a1, a2) (pc + 2) := by
  intro p l e R s m args below meth c Q D A ρ b ad0 k hC hF hL he hX
  obtain ⟨hx, hb, hml, hown, hts, hA, hlocks, hmn⟩ := hC
  obtain ⟨ls0, st0, S⟩ := k
  subst ha
  match st0 with
  | [] => exact trivial
  | x :: st0 =>
    show zres p l e R s m args below meth c Q D cl A ft ρ b nL ad0 me _ _ _ (match z_kn G.2.2.2 x with
      | some N => if Nat.blt N 1000000 then zn_on ls0 ((6, z_clen S.1) :: st0) (z_madeT S (z_row 0 N (z_len S.2.1)) a1 N) else zn_bad (ls0, x :: st0, S)
      | none => zn_bad (ls0, x :: st0, S))
    cases hy : z_kn G.2.2.2 x with
    | none => exact trivial
    | some N =>
      dsimp only
      split
      · rename_i ht
        intro r1 r2 kk
        obtain ⟨g1, g2, g3⟩ := z_small ht
        refine zk_mk (tn := a1) (a0 := (N, .inl (fun _ => 0))) he hy (fun ad tys cA h => z_row0 h) (fun H locs cells slots ls st ws tys hP hD hK hS hR1 hR2 k9 => ?_) r1 r2 kk
        refine va_newa hx hb (hts _ hw) hty hK hP hD hS hA (fun cA => ?_) g1 g2 ?_ hR1 hR2 hd k9
        · rw [← hty, hdf]
          exact vp_cell_i ..
        · rw [← hty]
          exact Nat.le_trans (Nat.mul_le_mul_left N hk) (by omega)
      · exact trivial
theorem zi_newL (hd : decode cc pc = .ok (.newarray .long, 2)) (hw : Cond.arrayClass .long ∈ W0) (ha : a = 1) (hty : FieldType.long = z_ty ft a1) : zIok X own mn cc nL W0 cl ft G me (pc, 12, a, a1, a2) (pc + 2) := by
  intro p l e R s m args below meth c Q D A ρ b ad0 k hC hF hL he hX
  obtain ⟨hx, hb, hml, hown, hts, hA, hlocks, hmn⟩ := hC
  obtain ⟨ls0, st0, S⟩ := k
  subst ha
  match st0 with
  | [] => exact trivial
  | x :: st0 =>
    show zres p l e R s m args below meth c Q D cl A ft ρ b nL ad0 me _ _ _ (match z_kn G.2.2.2 x with
      | some N => if Nat.blt N 1000000 then zn_on ls0 ((6, z_clen S.1) :: st0) (z_madeT S (z_row 1 N (z_len S.2.1)) a1 N) else zn_bad (ls0, x :: st0, S)
      | none => zn_bad (ls0, x :: st0, S))
    cases hy : z_kn G.2.2.2 x with
    | none => exact trivial
    | some N =>
      dsimp only
      split
      · rename_i ht
        intro r1 r2 kk
        obtain ⟨g1, g2, g3⟩ := z_small ht
        refine zk_mk (tn := a1) (a0 := (N, .inr (.inl (fun _ => 0)))) he hy (fun ad tys cA h => z_row1 h) (fun H locs cells slots ls st ws tys hP hD hK hS hR1 hR2 k9 => ?_) r1 r2 kk
        refine va_newa (atype := .long) (ty := z_ty ft a1) hx hb (hts _ hw) hty hK hP hD hS hA (fun cA => ?_) g1 g2 ?_ hR1 hR2 hd k9
        · rw [← hty]
          exact vp_cell_l ..
        · rw [← hty]
          show N * 8 ≤ 536870912
          omega
      · exact trivial
theorem zi_newA {i : Nat} {C : String} (hd : decode cc pc = .ok (.anewarray i, 3)) (hcl : Cond.classLink own i C ∈ W0) (hao : Cond.arrayOver (.object C) ∈ W0) (hon : ∀ (args a' : Array Value) (s : State), (Cond.arrayOver (.object C)).before args s = true → (Cond.arrayOver (.object C)).before a' s = true) (hty : FieldType.object C = z_ty ft a1) : zIok X own mn cc nL W0 cl ft G me (pc, 38, a, a1, a2) (pc + 3) := by
  intro p l e R s m args below meth c Q D A ρ b ad0 k hC hF hL he hX
  obtain ⟨hx, hb, hml, hown, hts, hA, hlocks, hmn⟩ := hC
  obtain ⟨ls0, st0, S⟩ := k
  match st0 with
  | [] => exact trivial
  | x :: st0 =>
    show zres p l e R s m args below meth c Q D cl A ft ρ b nL ad0 me _ _ _ (match z_kn G.2.2.2 x with
      | some N => if Nat.ble N 600 then zn_on ls0 ((6, z_clen S.1) :: st0) (z_madeT S (if Nat.ble N 100 then (6, z_len S.2.1, N, z_rep (5, 0) N) else (8, z_len S.2.1, N, [(5, 0)])) a1 N) else zn_bad (ls0, x :: st0, S)
      | none => zn_bad (ls0, x :: st0, S))
    cases hy : z_kn G.2.2.2 x with
    | none => exact trivial
    | some N =>
      dsimp only
      split
      · rename_i ht
        intro r1 r2 kk
        have g0 : N ≤ 600 := Nat.le_of_ble_eq_true ht
        obtain ⟨g1, g2, g3⟩ := z_small (N := N) (Nat.ble_eq_true_of_le (by omega))
        refine zk_mk (tn := a1) (a0 := (N, .inr (.inr (.inr (.inr (fun _ => none)))))) he hy (fun ad tys cA h => z_rowA h) (fun H locs cells slots ls st ws tys hP hD hK hS hR1 hR2 k9 => ?_) r1 r2 kk
        refine va_newq hx hb hown (hts _ hcl) (hon _ _ _ (hts _ hao)) hK hP hD hS hA g1 g2 (by omega) hR1 hR2 hd (fun q cA H1 => ?_)
        rw [hty]
        exact k9 q cA H1
      · exact trivial
end ZN
