/-! WHERE A METHOD IS CALLED -/
theorem z_callM {G : zG} {f bb ci : Nat} {k : zK} {N : zN} (h : zs_call G f bb ci k = N) : (N.1 = 7 ∧ N.2.1 = f ∧ ∃ as : List zV, N.2.2.2.1 = z_args 0 as ∧ k.2.1 = as.reverse ++ N.2.2.2.2.1 ∧ N.2.2.2.2.2 = k.2.2 ∧ z_cats N.2.2.2.2.1 ≤ 8 ∧ z_cats as ≤ bb % 64 ∧ as.length = bb / 64 ∧ z_rcv k.2.2 ci as = true) ∨ N.1 = 0 := by
  unfold zs_call at h
  cases hp : z_pop (bb / 64) k.2.1 [] with
  | none => rw [hp] at h; exact Or.inr (by rw [← h]; rfl)
  | some q =>
    obtain ⟨as, st⟩ := q
    rw [hp] at h
    dsimp only at h
    split at h
    · rename_i ht
      simp only [Bool.and_eq_true] at ht
      refine Or.inl ?_
      subst h
      refine ⟨rfl, rfl, as, rfl, ?_, rfl, Nat.le_of_ble_eq_true ht.1.1, Nat.le_of_ble_eq_true ht.1.2, ?_, ht.2⟩
      · exact z_pop_eq hp
      · exact z_pop_len hp
    · exact Or.inr (by rw [← h]; rfl)
theorem z_rcv1 {S : zS} {as : List zV} (h : z_rcv S 1 as = true) : ∃ r as1, as = r :: as1 ∧ r.1 = 6 := by
  match as, h with
  | r :: as1, h => exact ⟨r, as1, rfl, Nat.eq_of_beq_eq_true h⟩
theorem z_rcv2 {S : zS} {as : List zV} {n : Nat} (h : z_rcv S (n + 2) as = true) : ∃ r as1 t, as = r :: as1 ∧ r.1 = 6 ∧ z_cat S.1 r.2 = some t ∧ t.1 = 0 ∧ t.2.1 = n := by
  match as, h with
  | r :: as1, h =>
    have h : (Nat.beq r.1 6 && (match z_cat S.1 r.2 with
      | some t => Nat.beq t.1 0 && Nat.beq t.2.1 n
      | none => false)) = true := h
    cases ht : z_cat S.1 r.2 with
    | none => rw [ht] at h; simp at h
    | some t =>
      rw [ht] at h
      simp only [Bool.and_eq_true] at h
      exact ⟨r, as1, t, rfl, Nat.eq_of_beq_eq_true h.1, ht, Nat.eq_of_beq_eq_true h.2.1, Nat.eq_of_beq_eq_true h.2.2⟩
/-- what is known of every method -/
def z_zm (EX : Nat → String) (X : State → Nat → (Nat → Prop) → (Nat → Int32) → Prop) (WL : Nat → List Cond) (cl : List vw_C) (ft : List FieldType) (Y : Nat → zY) : zMT := fun ρ b a d as S o =>
  (o.1 = 1 ∨ o.1 = 2 → zMet X (WL a) cl ft ρ b d (Y a) as S o) ∧ (o.1 = 3 → zMetX EX X (WL a) cl ft ρ b d (Y a) as S o)
section ZSI
variable (EX : Nat → String) (X : State → Nat → (Nat → Prop) → (Nat → Int32) → Prop) (WL : Nat → List Cond) (Y : Nat → zY) (W0 : Nat → List Cond) (ET : Nat → List ExceptionTableEntry) (cl : List vw_C) (ft : List FieldType) (G : zG)
/-- a site: its call's row -/
def zRow (a pc f bb ci : Nat) : Prop :=
  ∀ (p : Program) (l : Launch) (e : Env) (R : Room) (s : State) (m : MethodId) (args : Array Value) (below : List Frame) (meth : Method) (c : Code) (D : va_G) (A : Nat → Prop) (ρ : Nat → Int32) (b d : Nat) (as st : List zV) (S : zS) (o : zR),
    zctx p s m args meth c (Y a).1.cls (Y a).1.name (Y a).2.1 (Y a).2.2.1 A (W0 a) → l.stackTraces = false → X s b A ρ → zMet X (WL f) cl ft ρ b d (Y f) as (z_in S) o → d + 2 ≤ R.frames → 64 * (d + 2) ≤ R.locals → S.2.2.1 + o.2.2.2.2.2.2.1 ≤ R.cells → S.2.2.2 + o.2.2.2.2.2.2.2 ≤ R.slots →
    z_cats st ≤ 8 → as.length = bb / 64 → z_rcv S ci as = true → z_callRow p l e R s m args below meth c D cl A ft ρ b (Y a).2.2.1 pc as st S o
/-- a site: what a throw does there -/
def zThr (a : Nat) (me : zP) (pc f bb ci : Nat) : Prop :=
  ∀ (p : Program) (l : Launch) (e : Env) (R : Room) (s : State) (m : MethodId) (args : Array Value) (below : List Frame) (meth : Method) (c : Code) (D : va_G) (A : Nat → Prop) (ρ : Nat → Int32) (b d : Nat) (as st : List zV) (ls0 : zL) (S : zS) (o : zR),
    zctx p s m args meth c (Y a).1.cls (Y a).1.name (Y a).2.1 (Y a).2.2.1 A (W0 a) → l.stackTraces = false → c.exceptionTable.toList = ET a → X s b A ρ → o.1 = 3 → zMetX EX X (WL f) cl ft ρ b d (Y f) as (z_in S) o → d + 2 ≤ R.frames → 64 * (d + 2) ≤ R.locals → S.2.2.1 + o.2.2.2.2.2.2.1 ≤ R.cells → S.2.2.2 + o.2.2.2.2.2.2.2 ≤ R.slots →
    z_cats st ≤ 8 → as.length = bb / 64 → z_rcv S ci as = true →
    (∀ (q : Nat) (y : zJ) (r : List zJ), z_handler me.2.1 pc o.2.1.1 = some q → z_drop me.1 q = y :: r → ∀ (Q : State → Prop) (ad0 : List Nat), zgo p l e R s m args below meth c Q D cl A ft ρ b (Y a).2.2.1 ad0 y.1 (ls0, [(7, 0)], z_grow S o.2.2.2.2) → zgo p l e R s m args below meth c Q D cl A ft ρ b (Y a).2.2.1 ad0 pc (ls0, as.reverse ++ st, S)) ∧
      (me.2.1 = [] → ∀ ad0 : List Nat, zgo p l e R s m args below meth c (z_QF EX cl ft ρ b below D A ad0 args s (3, o.2.1, [], [], z_grow S o.2.2.2.2)) D cl A ft ρ b (Y a).2.2.1 ad0 pc (ls0, as.reverse ++ st, S))
end ZSI
section ZSJ
variable {EX : Nat → String} {X : State → Nat → (Nat → Prop) → (Nat → Int32) → Prop} {WL : Nat → List Cond} {Y : Nat → zY} {W0 : Nat → List Cond} {ET : Nat → List ExceptionTableEntry} {cl : List vw_C} {ft : List FieldType} {G : zG} {T0 : List Cond}
theorem zi_call {a pc f bb ci : Nat} {me : zP} (hnl : bb % 64 ≤ (Y f).2.2.1) (hrow : zRow X WL Y W0 cl ft a pc f bb ci) : zCok X (z_QF EX cl ft) (z_zm EX X WL cl ft Y) Y W0 ET cl ft G a me (pc, 66, f, bb, ci) := by
  intro p l e R s m args below meth c D A ρ b k N hN hC hst hET he hX
  have hN : zs_call G f bb ci k = N := hN
  rcases z_callM hN with ⟨h7, hf, as, g1, g2, g3, g4, g5, g6, g7⟩ | h0
  · rw [h7, hf]
    refine ⟨as, g1, g2, g3, Nat.le_trans g5 hnl, fun d o r1 r2 r3 r4 hM => ⟨fun ho => ?_, fun _ h3 => absurd h3 (by show ¬ (66 : Nat) = 3; decide)⟩⟩
    exact hrow p l e R s m args below meth c D A ρ b d as _ k.2.2 o hC hst hX (hM.1 ho) r1 r2 r3 r4 g4 g6 g7
  · rw [h0]
    exact trivial
theorem zi_callT {a pc f bb ci : Nat} {me : zP} (hnl : bb % 64 ≤ (Y f).2.2.1) (hrow : zRow X WL Y W0 cl ft a pc f bb ci) (hthr : zThr EX X WL Y W0 ET cl ft a me pc f bb ci) : zCok X (z_QF EX cl ft) (z_zm EX X WL cl ft Y) Y W0 ET cl ft G a me (pc, 3, f, bb, ci) := by
  intro p l e R s m args below meth c D A ρ b k N hN hC hst hET he hX
  have hN : zs_call G f bb ci k = N := hN
  rcases z_callM hN with ⟨h7, hf, as, g1, g2, g3, g4, g5, g6, g7⟩ | h0
  · rw [h7, hf]
    refine ⟨as, g1, g2, g3, Nat.le_trans g5 hnl, fun d o r1 r2 r3 r4 hM => ⟨fun ho => ?_, fun h3 _ => ?_⟩⟩
    · exact hrow p l e R s m args below meth c D A ρ b d as _ k.2.2 o hC hst hX (hM.1 ho) r1 r2 r3 r4 g4 g6 g7
    · have := hthr p l e R s m args below meth c D A ρ b d as N.2.2.2.2.1 k.1 k.2.2 o hC hst hET hX h3 (hM.2 h3) r1 r2 r3 r4 g4 g6 g7
      rw [← g2] at this
      exact this
  · rw [h0]
    exact trivial
theorem zr_S {a pc f bb ci i : Nat} (hX : zXok X) (hWL : WL f = z_ws T0 (Y f)) (hG : GoodIn (W0 a) (z_ws T0 (Y f))) (hml : (Y f).2.2.1 ≤ 45) (hini : Cond.initialized (Y f).1.cls ∈ W0 a) (hl : Cond.methodLink (Y a).1.cls i (Y f).1 ∈ W0 a) (hst : Cond.static (Y f).1 ∈ W0 a)
    (hdd : (Y f).1.cls ≠ "java/lang/invoke/MethodHandle" ∧ (Y f).1.cls ≠ "java/lang/invoke/VarHandle" ∧ (parseMethodDescriptor (Y f).1.desc).map (fun d => d.parameters.length) = some (bb / 64)) (hd : decode (Y a).2.1 pc = .ok (.invokestatic i, 3)) : zRow X WL Y W0 cl ft a pc f bb ci := by
  intro p l e R s m args below meth c D A ρ b d as st S o hC hst0 hX0 hM r1 r2 r3 r4 g4 g6 g7
  rw [hWL] at hM
  exact zc_S hX hX0 hC hst0 hM hG r1 r2 hml r3 r4 g4 hini hl hdd g6 hst hd
theorem zr_SN {a pc f bb ci i : Nat} {host : String} (hX : zXok X) (hWL : WL f = z_ws T0 (Y f)) (hG : GoodIn (W0 a) (z_ws T0 (Y f))) (hml : (Y f).2.2.1 ≤ 45) (hini : Cond.initialized (Y f).1.cls ∈ W0 a) (hl : Cond.methodLinkNest (Y a).1.cls i (Y f).1 host ∈ W0 a) (hst : Cond.static (Y f).1 ∈ W0 a)
    (hdd : (Y f).1.cls ≠ "java/lang/invoke/MethodHandle" ∧ (Y f).1.cls ≠ "java/lang/invoke/VarHandle" ∧ (parseMethodDescriptor (Y f).1.desc).map (fun d => d.parameters.length) = some (bb / 64)) (hd : decode (Y a).2.1 pc = .ok (.invokestatic i, 3)) : zRow X WL Y W0 cl ft a pc f bb ci := by
  intro p l e R s m args below meth c D A ρ b d as st S o hC hst0 hX0 hM r1 r2 r3 r4 g4 g6 g7
  rw [hWL] at hM
  exact zc_SN hX hX0 hC hst0 hM hG r1 r2 hml r3 r4 g4 hini hl hdd g6 hst hd
theorem zr_I {a pc f bb i n : Nat} (hX : zXok X) (hWL : WL f = z_ws T0 (Y f)) (hG : GoodIn (W0 a) (z_ws T0 (Y f))) (hml : (Y f).2.2.1 ≤ 45) (hini : Cond.initialized (Y f).1.cls ∈ W0 a) (hl : Cond.methodLink (Y a).1.cls i (Y f).1 ∈ W0 a) (hret : (Y f).2.2.2 = none) (hin : Cond.instanceMethod (Y f).1 ∈ W0 a) (hy1 : (Y f).1.name = "<init>")
    (hdd : (Y f).1.cls ≠ "java/lang/invoke/MethodHandle" ∧ (Y f).1.cls ≠ "java/lang/invoke/VarHandle" ∧ (parseMethodDescriptor (Y f).1.desc).map (fun d => d.parameters.length) = some n) (hn : bb / 64 = n + 1) (hd : decode (Y a).2.1 pc = .ok (.invokespecial i, 3)) : zRow X WL Y W0 cl ft a pc f bb 1 := by
  intro p l e R s m args below meth c D A ρ b d as st S o hC hst0 hX0 hM r1 r2 r3 r4 g4 g6 g7
  rw [hWL] at hM
  obtain ⟨r, as1, e1, e2⟩ := z_rcv1 g7
  exact zc_I hX hX0 hC hst0 hM hG r1 r2 hml r3 r4 g4 hini hl hdd (g6.trans hn) hret hin hy1 e1 e2 hd
theorem zr_IN {a pc f bb i n : Nat} {host : String} (hX : zXok X) (hWL : WL f = z_ws T0 (Y f)) (hG : GoodIn (W0 a) (z_ws T0 (Y f))) (hml : (Y f).2.2.1 ≤ 45) (hini : Cond.initialized (Y f).1.cls ∈ W0 a) (hl : Cond.methodLinkNest (Y a).1.cls i (Y f).1 host ∈ W0 a) (hret : (Y f).2.2.2 = none) (hin : Cond.instanceMethod (Y f).1 ∈ W0 a) (hy1 : (Y f).1.name = "<init>")
    (hdd : (Y f).1.cls ≠ "java/lang/invoke/MethodHandle" ∧ (Y f).1.cls ≠ "java/lang/invoke/VarHandle" ∧ (parseMethodDescriptor (Y f).1.desc).map (fun d => d.parameters.length) = some n) (hn : bb / 64 = n + 1) (hd : decode (Y a).2.1 pc = .ok (.invokespecial i, 3)) : zRow X WL Y W0 cl ft a pc f bb 1 := by
  intro p l e R s m args below meth c D A ρ b d as st S o hC hst0 hX0 hM r1 r2 r3 r4 g4 g6 g7
  rw [hWL] at hM
  obtain ⟨r, as1, e1, e2⟩ := z_rcv1 g7
  exact zc_IN hX hX0 hC hst0 hM hG r1 r2 hml r3 r4 g4 hini hl hdd (g6.trans hn) hret hin hy1 e1 e2 hd
theorem zr_V {a pc f bb ci i n : Nat} {q : vw_C} (hX : zXok X) (hWL : WL f = z_ws T0 (Y f)) (hG : GoodIn (W0 a) (z_ws T0 (Y f))) (hml : (Y f).2.2.1 ≤ 45) (hini : Cond.initialized (Y f).1.cls ∈ W0 a) (hl : Cond.methodLink (Y a).1.cls i (Y f).1 ∈ W0 a) (hin : Cond.instanceMethod (Y f).1 ∈ W0 a) (hq : cl[ci]? = some q) (hsel : Cond.selects q.1 (Y f).1 (Y f).1 ∈ W0 a)
    (hdd : (Y f).1.cls ≠ "java/lang/invoke/MethodHandle" ∧ (Y f).1.cls ≠ "java/lang/invoke/VarHandle" ∧ (parseMethodDescriptor (Y f).1.desc).map (fun d => d.parameters.length) = some n) (hn : bb / 64 = n + 1) (hd : decode (Y a).2.1 pc = .ok (.invokevirtual i, 3)) : zRow X WL Y W0 cl ft a pc f bb (ci + 2) := by
  intro p l e R s m args below meth c D A ρ b d as st S o hC hst0 hX0 hM r1 r2 r3 r4 g4 g6 g7
  rw [hWL] at hM
  obtain ⟨r, as1, t, e1, e2, e3, e4, e5⟩ := z_rcv2 g7
  exact zc_V hX hX0 hC hst0 hM hG r1 r2 hml r3 r4 g4 hini hl hdd (g6.trans hn) hin hsel e1 e2 e3 e4 (by rw [e5]; exact hq) rfl hd
theorem zr_VN {a pc f bb ci i n : Nat} {host : String} {q : vw_C} (hX : zXok X) (hWL : WL f = z_ws T0 (Y f)) (hG : GoodIn (W0 a) (z_ws T0 (Y f))) (hml : (Y f).2.2.1 ≤ 45) (hini : Cond.initialized (Y f).1.cls ∈ W0 a) (hl : Cond.methodLinkNest (Y a).1.cls i (Y f).1 host ∈ W0 a) (hin : Cond.instanceMethod (Y f).1 ∈ W0 a) (hq : cl[ci]? = some q) (hsel : Cond.selects q.1 (Y f).1 (Y f).1 ∈ W0 a)
    (hdd : (Y f).1.cls ≠ "java/lang/invoke/MethodHandle" ∧ (Y f).1.cls ≠ "java/lang/invoke/VarHandle" ∧ (parseMethodDescriptor (Y f).1.desc).map (fun d => d.parameters.length) = some n) (hn : bb / 64 = n + 1) (hd : decode (Y a).2.1 pc = .ok (.invokevirtual i, 3)) : zRow X WL Y W0 cl ft a pc f bb (ci + 2) := by
  intro p l e R s m args below meth c D A ρ b d as st S o hC hst0 hX0 hM r1 r2 r3 r4 g4 g6 g7
  rw [hWL] at hM
  obtain ⟨r, as1, t, e1, e2, e3, e4, e5⟩ := z_rcv2 g7
  exact zc_VN hX hX0 hC hst0 hM hG r1 r2 hml r3 r4 g4 hini hl hdd (g6.trans hn) hin hsel e1 e2 e3 e4 (by rw [e5]; exact hq) rfl hd
end ZSJ
