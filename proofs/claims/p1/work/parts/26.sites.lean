/-! SITES WHERE A CALL MAY THROW; THE THROW ITSELF -/
section ZTS
variable {EX : Nat → String} {X : State → Nat → (Nat → Prop) → (Nat → Int32) → Prop} {WL : Nat → List Cond} {Y : Nat → zY} {W0 : Nat → List Cond} {ET : Nat → List ExceptionTableEntry} {cl : List vw_C} {ft : List FieldType} {G : zG} {T0 : List Cond}
theorem zt_V {me : zP} {a pc f bb ci i n : Nat} {q : vw_C} (hX : zXok X) (hEo : zEok (Y a).1.cls (W0 a) EX me me.2.1 (ET a)) (hNC : zNC X EX) (hWL : WL f = z_ws T0 (Y f)) (hG : GoodIn (W0 a) (z_ws T0 (Y f))) (hml : (Y f).2.2.1 ≤ 45) (hini : Cond.initialized (Y f).1.cls ∈ W0 a) (hl : Cond.methodLink (Y a).1.cls i (Y f).1 ∈ W0 a) (hin : Cond.instanceMethod (Y f).1 ∈ W0 a) (hq : cl[ci]? = some q) (hsel : Cond.selects q.1 (Y f).1 (Y f).1 ∈ W0 a)
    (hdd : (Y f).1.cls ≠ "java/lang/invoke/MethodHandle" ∧ (Y f).1.cls ≠ "java/lang/invoke/VarHandle" ∧ (parseMethodDescriptor (Y f).1.desc).map (fun d => d.parameters.length) = some n) (hn : bb / 64 = n + 1) (hd : decode (Y a).2.1 pc = .ok (.invokevirtual i, 3)) : zThr EX X WL Y W0 ET cl ft a me pc f bb (ci + 2) := by
  intro p l e R s m args below meth c D A ρ b d as st ls0 S o hC hst0 hET hX0 h3 hM r1 r2 r3 r4 g4 g6 g7
  rw [hWL] at hM
  obtain ⟨r, as1, t, e1, e2, e3, e4, e5⟩ := z_rcv2 g7
  exact zk_thrown hC hET hEo hNC hX0 h3 (zy_V hX hX0 hC hst0 hM hG r1 r2 hml r3 r4 g4 hini hl hdd (g6.trans hn) hin hsel e1 e2 e3 e4 (by rw [e5]; exact hq) rfl hd)
theorem zt_S {me : zP} {a pc f bb ci i : Nat} (hX : zXok X) (hEo : zEok (Y a).1.cls (W0 a) EX me me.2.1 (ET a)) (hNC : zNC X EX) (hWL : WL f = z_ws T0 (Y f)) (hG : GoodIn (W0 a) (z_ws T0 (Y f))) (hml : (Y f).2.2.1 ≤ 45) (hini : Cond.initialized (Y f).1.cls ∈ W0 a) (hl : Cond.methodLink (Y a).1.cls i (Y f).1 ∈ W0 a) (hst : Cond.static (Y f).1 ∈ W0 a)
    (hdd : (Y f).1.cls ≠ "java/lang/invoke/MethodHandle" ∧ (Y f).1.cls ≠ "java/lang/invoke/VarHandle" ∧ (parseMethodDescriptor (Y f).1.desc).map (fun d => d.parameters.length) = some (bb / 64)) (hd : decode (Y a).2.1 pc = .ok (.invokestatic i, 3)) : zThr EX X WL Y W0 ET cl ft a me pc f bb ci := by
  intro p l e R s m args below meth c D A ρ b d as st ls0 S o hC hst0 hET hX0 h3 hM r1 r2 r3 r4 g4 g6 g7
  rw [hWL] at hM
  exact zk_thrown hC hET hEo hNC hX0 h3 (zy_S hX hX0 hC hst0 hM hG r1 r2 hml r3 r4 g4 hini hl hdd g6 hst hd)
theorem zr_SW {hh : List (Nat × Nat × Nat × Nat)} {a pc f bb ci i : Nat} (hX : zXok X) (hWL : WL f = z_wsH T0 (Y f) hh) (hG : GoodIn (W0 a) (z_wsH T0 (Y f) hh)) (hml : (Y f).2.2.1 ≤ 45) (hini : Cond.initialized (Y f).1.cls ∈ W0 a) (hl : Cond.methodLink (Y a).1.cls i (Y f).1 ∈ W0 a) (hst : Cond.static (Y f).1 ∈ W0 a)
    (hdd : (Y f).1.cls ≠ "java/lang/invoke/MethodHandle" ∧ (Y f).1.cls ≠ "java/lang/invoke/VarHandle" ∧ (parseMethodDescriptor (Y f).1.desc).map (fun d => d.parameters.length) = some (bb / 64)) (hd : decode (Y a).2.1 pc = .ok (.invokestatic i, 3)) : zRow X WL Y W0 cl ft a pc f bb ci := by
  intro p l e R s m args below meth c D A ρ b d as st S o hC hst0 hX0 hM r1 r2 r3 r4 g4 g6 g7
  rw [hWL] at hM
  exact zc_SW hX hX0 hC hst0 hM hG r1 r2 hml r3 r4 g4 hini hl hdd g6 hst hd
/-- two things of the library that a throw looks at -/
def zUS (X : State → Nat → (Nat → Prop) → (Nat → Int32) → Prop) : Prop := ∀ (s : State) (b : Nat) (A : Nat → Prop) (ρ : Nat → Int32), X s b A ρ → vx_Zq Bundle.tN "UNASSIGNED_STACK" Bundle.steD A s s.heap ∧ vx_Zq Bundle.tN "SUPPRESSED_SENTINEL" Bundle.listD A s s.heap
theorem zi_throw {a pc x a1 a2 ik ic : Nat} {names : List String} (hUS : zUS X) (hcls : Bundle.fit (EX x) = true) (hnames : ∀ n ∈ names, Bundle.fit n = true) (hk : Cond.classLink (Y a).1.cls ik (EX x) ∈ W0 a) (hini : Cond.initialized (EX x) ∈ W0 a) (hat : ∀ w ∈ vx_at0 (Y a).1.cls ic (EX x) names, w ∈ W0 a)
    (hgood : ∀ w ∈ Cond.classLink (Y a).1.cls ik (EX x) :: Cond.initialized (EX x) :: vx_at0 (Y a).1.cls ic (EX x) names, vx_ot w = true) (hE : ET a = []) (hx3 : x < 3) (hnl : names.length ≤ 4)
    (d0 : decode (Y a).2.1 pc = .ok (.new ik, 3)) (d3 : decode (Y a).2.1 (pc + 3) = .ok (.dup, 1)) (d4 : decode (Y a).2.1 (pc + 4) = .ok (.invokespecial ic, 3)) (d7 : decode (Y a).2.1 (pc + 7) = .ok (.athrow, 1)) : zRok X (z_QF EX cl ft) Y W0 ET cl ft G a (pc, 39, x, a1, a2) := by
  intro p l e R s m args below meth c D A ρ b ad0 k hC hst hET hret hF hL he hX
  obtain ⟨hx, hb, hml, hown, hts, hA, hlocks, hmn⟩ := hC
  obtain ⟨ls0, st0, S⟩ := k
  by_cases ht : Nat.ble (z_cats st0) 8 = true
  · have e1 : z_do G (pc, 39, x, a1, a2) (ls0, st0, S) = (5, 0, (x, 0), [], [], (S.1, S.2.1, S.2.2.1 + 1, S.2.2.2 + 6)) := by
      show (if Nat.ble (z_cats st0) 8 then _ else _) = _
      rw [if_pos ht]
    rw [e1]
    intro r1 r2 r3 r4 ws tys H locs ls lv st hP hD hK hS hw had hl hlv hst9
    have hcat := z_cats_eq hst9
    have ht : z_cats st0 ≤ 8 := Nat.le_of_ble_eq_true ht
    obtain ⟨hU, hN⟩ := hUS s b A ρ hX
    refine vx_throw0 (cls := EX x) (names := names) (ik := ik) (ic := ic) (A := A) hx hb hst hown hcls hnames (hts _ hk) (hts _ hini) (fun w h => hts _ (hat w h)) hgood hU hN hS (hl.1.trans hml.symm) d0 d3 d4 d7 (fun q hq => by rw [hET, hE] at hq; cases hq) (by omega) ?_ r3 r4 hlocks (fun t hal h1 h2 => ?_) hS.2.2 (Nat.le_refl _) (Nat.le_refl _)
    · have : 13 * (names.length + 1) ≤ 65 := by omega
      have hcat : (st.map fun v => v.category).sum = z_cats st0 := hcat
      omega
    · refine ⟨⟨rfl, hx3⟩, ws, tys, fun k q hq => (hP k q hq).kept (h2 q.1 (hP k q hq).lt), va_K.moved hal hK, hD, hw, had, Nat.le_trans hS.1 h1, fun q h3 h4 => ?_⟩
      rw [h2 q (Nat.lt_of_lt_of_le h3 hS.1)]
      exact hS.2.1 q h3 h4
  · have e1 : z_do G (pc, 39, x, a1, a2) (ls0, st0, S) = zn_bad (ls0, st0, S) := by
      show (if Nat.ble (z_cats st0) 8 then _ else _) = _
      rw [if_neg ht]
    rw [e1]
    exact trivial
end ZTS
