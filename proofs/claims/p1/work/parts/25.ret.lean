/-! RETURNS; CALLS THAT THROW; CALLS OF METHODS WITH HANDLERS -/
section ZRT
variable {X : State → Nat → (Nat → Prop) → (Nat → Int32) → Prop} {QF : zQT} {Y : Nat → zY} {W0 : Nat → List Cond} {ET : Nat → List ExceptionTableEntry} {cl : List vw_C} {ft : List FieldType} {G : zG} {a pc a1 a2 : Nat}
theorem zi_iret (hd : decode (Y a).2.1 pc = .ok (.ireturn, 1)) (hr : (Y a).2.2.2 = some .int) : zRok X QF Y W0 ET cl ft G a (pc, 11, 0, a1, a2) := by
  intro p l e R s m args below meth c D A ρ b ad0 k hC hst hET hret hF hL he hX
  obtain ⟨hx, hb, hml, hown, hts, hA, hlocks, hmn⟩ := hC
  obtain ⟨ls0, st0, S⟩ := k
  match st0 with
  | [] => exact trivial
  | _ :: _ :: _ => exact trivial
  | [v] =>
    by_cases ht : z_isI v = true
    · have e1 : z_do G (pc, 11, 0, a1, a2) (ls0, [v], S) = (3, 0, v, [], [], S) := by
        show (if z_isI v then _ else _) = _
        rw [if_pos ht]
      rw [e1]
      exact zk_iret hx hb hlocks (hret.trans hr) hd ht
    · have e1 : z_do G (pc, 11, 0, a1, a2) (ls0, [v], S) = zn_bad (ls0, [v], S) := by
        show (if z_isI v then _ else _) = _
        rw [if_neg ht]
      rw [e1]
      exact trivial
theorem zi_lret (hd : decode (Y a).2.1 pc = .ok (.lreturn, 1)) (hr : (Y a).2.2.2 = some .long) : zRok X QF Y W0 ET cl ft G a (pc, 11, 1, a1, a2) := by
  intro p l e R s m args below meth c D A ρ b ad0 k hC hst hET hret hF hL he hX
  obtain ⟨hx, hb, hml, hown, hts, hA, hlocks, hmn⟩ := hC
  obtain ⟨ls0, st0, S⟩ := k
  match st0 with
  | [] => exact trivial
  | _ :: _ :: _ => exact trivial
  | [v] =>
    by_cases ht : z_isL v = true
    · have e1 : z_do G (pc, 11, 1, a1, a2) (ls0, [v], S) = (3, 0, v, [], [], S) := by
        show (if z_isL v then _ else _) = _
        rw [if_pos ht]
      rw [e1]
      exact zk_lret hx hb hlocks (hret.trans hr) hd ht
    · have e1 : z_do G (pc, 11, 1, a1, a2) (ls0, [v], S) = zn_bad (ls0, [v], S) := by
        show (if z_isL v then _ else _) = _
        rw [if_neg ht]
      rw [e1]
      exact trivial
theorem zi_aret (hd : decode (Y a).2.1 pc = .ok (.areturn, 1)) {rt : FieldType} (hr : (Y a).2.2.2 = some rt) (hrt : (∃ n, rt = .object n) ∨ ∃ t, rt = .array t) : zRok X QF Y W0 ET cl ft G a (pc, 11, 2, a1, a2) := by
  intro p l e R s m args below meth c D A ρ b ad0 k hC hst hET hret hF hL he hX
  obtain ⟨hx, hb, hml, hown, hts, hA, hlocks, hmn⟩ := hC
  obtain ⟨ls0, st0, S⟩ := k
  match st0 with
  | [] => exact trivial
  | _ :: _ :: _ => exact trivial
  | [v] =>
    by_cases ht : (Nat.beq v.1 5 || Nat.beq v.1 6) = true
    · have e1 : z_do G (pc, 11, 2, a1, a2) (ls0, [v], S) = (3, 0, v, [], [], S) := by
        show (if (Nat.beq v.1 5 || Nat.beq v.1 6) then _ else _) = _
        rw [if_pos ht]
      rw [e1]
      exact zk_aret hx hb hlocks (hret.trans hr) hrt hd (by simp only [Bool.or_eq_true] at ht; rcases ht with ht | ht; exact Or.inl (Nat.eq_of_beq_eq_true ht); exact Or.inr (Nat.eq_of_beq_eq_true ht))
    · have e1 : z_do G (pc, 11, 2, a1, a2) (ls0, [v], S) = zn_bad (ls0, [v], S) := by
        show (if (Nat.beq v.1 5 || Nat.beq v.1 6) then _ else _) = _
        rw [if_neg ht]
      rw [e1]
      exact trivial
theorem zi_zret (hd : decode (Y a).2.1 pc = .ok (.ireturn, 1)) (hr : (Y a).2.2.2 = some .boolean) : zRok X QF Y W0 ET cl ft G a (pc, 11, 3, a1, a2) := by
  intro p l e R s m args below meth c D A ρ b ad0 k hC hst hET hret hF hL he hX
  obtain ⟨hx, hb, hml, hown, hts, hA, hlocks, hmn⟩ := hC
  obtain ⟨ls0, st0, S⟩ := k
  match st0 with
  | [] => exact trivial
  | _ :: _ :: _ => exact trivial
  | [v] =>
    by_cases ht : (Nat.beq v.1 0 && Nat.ble v.2 1) = true
    · have e1 : z_do G (pc, 11, 3, a1, a2) (ls0, [v], S) = (3, 0, v, [], [], S) := by
        show (if (Nat.beq v.1 0 && Nat.ble v.2 1) then _ else _) = _
        rw [if_pos ht]
      rw [e1]
      exact zk_zret hx hb hlocks (hret.trans hr) hd (by simp only [Bool.and_eq_true] at ht; exact Nat.eq_of_beq_eq_true ht.1) (by simp only [Bool.and_eq_true] at ht; exact Nat.le_of_ble_eq_true ht.2)
    · have e1 : z_do G (pc, 11, 3, a1, a2) (ls0, [v], S) = zn_bad (ls0, [v], S) := by
        show (if (Nat.beq v.1 0 && Nat.ble v.2 1) then _ else _) = _
        rw [if_neg ht]
      rw [e1]
      exact trivial
theorem zi_vret {a3 : Nat} (hd : decode (Y a).2.1 pc = .ok (.return_, 1)) (hr : (Y a).2.2.2 = none) : zRok X QF Y W0 ET cl ft G a (pc, 21, a1, a2, a3) := by
  intro p l e R s m args below meth c D A ρ b ad0 k hC hst hET hret hF hL he hX
  obtain ⟨hx, hb, hml, hown, hts, hA, hlocks, hmn⟩ := hC
  obtain ⟨ls0, st0, S⟩ := k
  match st0 with
  | [] => exact zk_vret hx hb hlocks (hret.trans hr) hd
  | _ :: _ => exact trivial
end ZRT
section ZCB
variable {p : Program} {l : Launch} {e : Env} {R : Room} {s : State} {m : MethodId} {args : Array Value} {below : List Frame} {meth : Method} {c : Code} {D : va_G} {cl : List vw_C} {A : Nat → Prop} {ft : List FieldType} {ρ : Nat → Int32} {b nL : Nat}
variable {X : State → Nat → (Nat → Prop) → (Nat → Int32) → Prop} {own mn : String} {cc : ByteArray} {W0 T0 : List Cond} {pc i d : Nat} {y : zY} {as st : List zV} {S : zS} {o : zR} {host C : String}
variable {EX : Nat → String}
theorem zy_V (hX : zXok X) (hX0 : X s b A ρ) (hC : zctx p s m args meth c own mn cc nL A W0) (hst0 : l.stackTraces = false) (hM : zMetX EX X (z_ws T0 y) cl ft ρ b d y as (z_in S) o) (hG : GoodIn W0 (z_ws T0 y)) (hF : d + 2 ≤ R.frames) (hL : 64 * (d + 2) ≤ R.locals) (hml : y.2.2.1 ≤ 45) (hc : S.2.2.1 + o.2.2.2.2.2.2.1 ≤ R.cells) (hs : S.2.2.2 + o.2.2.2.2.2.2.2 ≤ R.slots) (h8 : z_cats st ≤ 8) (hini : Cond.initialized y.1.cls ∈ W0) (hl : Cond.methodLink own i y.1 ∈ W0) {n : Nat} (hdd : y.1.cls ≠ "java/lang/invoke/MethodHandle" ∧ y.1.cls ≠ "java/lang/invoke/VarHandle" ∧ (parseMethodDescriptor y.1.desc).map (fun d => d.parameters.length) = some n) (hn : as.length = n + 1) (hin : Cond.instanceMethod y.1 ∈ W0) (hsel : Cond.selects C y.1 y.1 ∈ W0) {r : zV} {as1 : List zV} (has : as = r :: as1) {t : zC} (h6 : r.1 = 6) (ht : z_cat S.1 r.2 = some t) (h0 : t.1 = 0) {q : vw_C} (hq : cl[t.2.1]? = some q) (hqC : q.1 = C) (hd : decode cc pc = .ok (.invokevirtual i, 3))   : z_thrRow EX p l e R s m args below meth c D cl A ft ρ b nL pc as st S o := by
  obtain ⟨hx, hb, hml0, hown, hts, hA, hlocks, hmn⟩ := hC
  obtain ⟨y1, yc, yn, yr⟩ := y
  dsimp only at hml hdd
  intro ws tys H locs ls vs rest hP hD hK hS hw hl0 hvs hrest
  have hcat := z_cats_eq hrest
  have hMM := hM l D ws tys H.size vs hst0 (hD.weaken (fun _ _ _ _ => trivial)) hw hvs
  subst has
  match vs, hvs, hMM with
  | w :: vs, hvs, hMM =>
    obtain ⟨r1, r2⟩ := r
    dsimp only at h6
    subst h6
    obtain ⟨a, ha, rfl⟩ := hvs.1
    have hlen : vs.length = n := by
      have h1 := zl_len hvs.2
      rw [List.length_cons] at hn
      omega
    rw [List.reverse_cons, List.append_assoc]
    have hr : ∃ cell : Cell, H[a]? = some cell ∧ cell.vm.isStatics = false ∧ s.vm.findClass C = some cell.cls := by
      obtain ⟨q2, g1, g2⟩ := zw_get hw ht
      obtain ⟨t1, t2⟩ := t
      dsimp only at h0
      subst h0
      obtain ⟨fs, g3, -⟩ := g2
      obtain ⟨q21, q22⟩ := q2
      dsimp only at g3
      subst g3
      rw [List.getElem?_map, g1] at ha
      cases ha
      subst hqC
      exact va_recv hK hP hq g1
    exact ⟨_, vx_runV (As := vs) ⟨hx, hb, hml0, hown, hts⟩ hMM ⟨callB_of n hts hG rfl rfl rfl (hts _ hini) (hts _ hl) hdd ⟨by show d + 1 + 1 ≤ _; omega, by show 8 + (yn + 11) + 64 * (d + 1) ≤ _; omega⟩, hts _ hin, hts _ hsel⟩ ⟨z_blind hX, hr, z_start hX hX0 hA hP hD hK hS⟩ rfl hlen hl0 rfl (by show 2 * 0 + _ ≤ 8; omega) hd ⟨hc, hs⟩⟩
theorem zy_S (hX : zXok X) (hX0 : X s b A ρ) (hC : zctx p s m args meth c own mn cc nL A W0) (hst0 : l.stackTraces = false) (hM : zMetX EX X (z_ws T0 y) cl ft ρ b d y as (z_in S) o) (hG : GoodIn W0 (z_ws T0 y)) (hF : d + 2 ≤ R.frames) (hL : 64 * (d + 2) ≤ R.locals) (hml : y.2.2.1 ≤ 45) (hc : S.2.2.1 + o.2.2.2.2.2.2.1 ≤ R.cells) (hs : S.2.2.2 + o.2.2.2.2.2.2.2 ≤ R.slots) (h8 : z_cats st ≤ 8) (hini : Cond.initialized y.1.cls ∈ W0) (hl : Cond.methodLink own i y.1 ∈ W0) {n : Nat} (hdd : y.1.cls ≠ "java/lang/invoke/MethodHandle" ∧ y.1.cls ≠ "java/lang/invoke/VarHandle" ∧ (parseMethodDescriptor y.1.desc).map (fun d => d.parameters.length) = some n) (hn : as.length = n) (hst : Cond.static y.1 ∈ W0) (hd : decode cc pc = .ok (.invokestatic i, 3))   : z_thrRow EX p l e R s m args below meth c D cl A ft ρ b nL pc as st S o := by
  obtain ⟨hx, hb, hml0, hown, hts, hA, hlocks, hmn⟩ := hC
  obtain ⟨y1, yc, yn, yr⟩ := y
  dsimp only at hml hdd
  intro ws tys H locs ls vs rest hP hD hK hS hw hl0 hvs hrest
  have hcat := z_cats_eq hrest
  have hMM := hM l D ws tys H.size vs hst0 (hD.weaken (fun _ _ _ _ => trivial)) hw hvs
  have hlen : vs.length = n := (zl_len hvs).trans hn
  exact ⟨_, vx_runS (As := vs) ⟨hx, hb, hml0, hown, hts⟩ hMM ⟨callB_of n hts hG rfl rfl rfl (hts _ hini) (hts _ hl) hdd ⟨by show d + 1 + 1 ≤ _; omega, by show 8 + (yn + 11) + 64 * (d + 1) ≤ _; omega⟩, hts _ hst⟩ ⟨z_blind hX, z_start hX hX0 hA hP hD hK hS⟩ rfl hlen hl0 rfl (by show 2 * 0 + _ ≤ 8; omega) hd ⟨hc, hs⟩⟩
theorem zc_SW {hh : List (Nat × Nat × Nat × Nat)} (hX : zXok X) (hX0 : X s b A ρ) (hC : zctx p s m args meth c own mn cc nL A W0) (hst0 : l.stackTraces = false) (hM : zMet X (z_wsH T0 y hh) cl ft ρ b d y as (z_in S) o) (hG : GoodIn W0 (z_wsH T0 y hh)) (hF : d + 2 ≤ R.frames) (hL : 64 * (d + 2) ≤ R.locals) (hml : y.2.2.1 ≤ 45) (hc : S.2.2.1 + o.2.2.2.2.2.2.1 ≤ R.cells) (hs : S.2.2.2 + o.2.2.2.2.2.2.2 ≤ R.slots) (h8 : z_cats st ≤ 8) (hini : Cond.initialized y.1.cls ∈ W0) (hl : Cond.methodLink own i y.1 ∈ W0) {n : Nat} (hdd : y.1.cls ≠ "java/lang/invoke/MethodHandle" ∧ y.1.cls ≠ "java/lang/invoke/VarHandle" ∧ (parseMethodDescriptor y.1.desc).map (fun d => d.parameters.length) = some n) (hn : as.length = n) (hst : Cond.static y.1 ∈ W0) (hd : decode cc pc = .ok (.invokestatic i, 3)) : z_callRow p l e R s m args below meth c D cl A ft ρ b nL pc as st S o := by
  obtain ⟨hx, hb, hml0, hown, hts, hA, hlocks, hmn⟩ := hC
  obtain ⟨y1, yc, yn, yr⟩ := y
  dsimp only at hml hdd
  intro ws tys H locs ls vs rest hP hD hK hS hw hl0 hvs hrest
  have hcat := z_cats_eq hrest
  have hMM := hM l D ws tys H.size vs hst0 (hD.weaken (fun _ _ _ _ => trivial)) hw hvs
  have hlen : vs.length = n := (zl_len hvs).trans hn
  have cw : vx_CSW R s args own i y1 yc yn yr hh (z_wsH T0 (y1, yc, yn, yr) hh) (z_rm d o) o.2.2.2.2.2.2.1 o.2.2.2.2.2.2.2 n := by
    refine ⟨⟨rfl, rfl, by show d + 1 + 1 ≤ _; omega, by show 8 + (yn + 11) + 64 * (d + 1) ≤ _; omega, pay_in hts hG, List.mem_cons_self⟩, hts _ (hG _ List.mem_cons_self).1, hts _ hini, ⟨hdd.1, hdd.2.1⟩, fun sig h => ?_, hts _ hl, hts _ hst⟩
    have h2 := hdd.2.2
    rw [h] at h2
    exact (Option.some.inj h2).symm
  exact vx_runSW (As := vs) ⟨hx, hb, hml0, hown, hts⟩ hMM cw ⟨z_blind hX, z_start hX hX0 hA hP hD hK hS⟩ rfl hlen hl0 rfl (by show 2 * 0 + _ ≤ 8; omega) hd ⟨hc, hs⟩
end ZCB
