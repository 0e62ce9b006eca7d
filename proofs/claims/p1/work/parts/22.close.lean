/-! A METHOD'S BODY GIVES WHAT ITS CALLERS MAY USE -/
/-- what a callee that throws says at its end -/
def zXC (EX : Nat → String) (D : va_G) (cl : List vw_C) (ft : List FieldType) (ρ : Nat → Int32) (b : Nat) (A1 : Nat → Prop) (ad : List Nat) (o : zR) : String → State → State → Prop := fun E st t =>
  (E = EX o.2.1.1 ∧ o.2.1.1 < 3) ∧ ∃ (ws : va_W) (tys : List (ClassId × FieldType)), va_P D cl ws t.heap ∧ va_K D cl tys t ∧ va_D A1 ws ∧ zw ft ρ b o.2.2.2.2 ws tys ∧ (∀ i a : Nat, ad[i]? = some a → (ws.map (fun q => q.1))[i]? = some a) ∧ va_F A1 st t
/-- the words of a method with handlers -/
def z_wsH (T0 : List Cond) (y : zY) (hh : List (Nat × Nat × Nat × Nat)) : List Cond := Cond.codeWith y.1 y.2.1 y.2.2.1 y.2.2.2 hh :: T0
def z_none : Array Value → State → Outcome → State → Prop := fun _ _ _ _ => False
def zMetX (EX : Nat → String) (X : State → Nat → (Nat → Prop) → (Nat → Int32) → Prop) (wl : List Cond) (cl : List vw_C) (ft : List FieldType) (ρ : Nat → Int32) (b d : Nat) (y : zY) (as : List zV) (S : zS) (o : zR) : Prop :=
  ∀ (l : Launch) (D : va_G) (ws : va_W) (tys : List (ClassId × FieldType)) (n : Nat) (vs : List Value), l.stackTraces = false → va_D (fun _ => True) ws → zw ft ρ b S ws tys → zl (zv ρ b (ws.map (fun q => q.1))) as vs →
    vx_Met l y.1 wl (z_rm d o) (va_Pc vs (z_B X D cl ρ b ws tys n)) z_none (zXC EX D cl ft ρ b (va_A ws n) (ws.map (fun q => q.1)) o) o.2.2.2.2.2.2.1 o.2.2.2.2.2.2.2 (va_A ws n)
def z_QF (EX : Nat → String) (cl : List vw_C) (ft : List FieldType) : zQT := fun ρ b below D A ad0 args s o =>
  vx_MQ below z_none (zXC EX D cl ft ρ b A ad0 o) args s o.2.2.2.2.2.2.1 o.2.2.2.2.2.2.2 A
section ZCL
variable {X : State → Nat → (Nat → Prop) → (Nat → Int32) → Prop} {EX : Nat → String} {Y : Nat → zY} {W0 : Nat → List Cond} {ET : Nat → List ExceptionTableEntry} {cl : List vw_C} {ft : List FieldType} {T0 N0 : List Cond}
/-- the words of the nest are known -/
def zNok (X : State → Nat → (Nat → Prop) → (Nat → Int32) → Prop) (N0 : List Cond) : Prop := ∀ (s : State) (b : Nat) (A : Nat → Prop) (ρ : Nat → Int32) (args : Array Value), X s b A ρ → ∀ w ∈ N0, w.before args s = true
theorem z_close {ρ : Nat → Int32} {b a d : Nat} {me : zP} {as : List zV} {S : zS} {o : zR} (hy : plainName (Y a).1.cls = true) (hN : zNok X N0) (hW : W0 a = z_ws T0 (Y a) ++ N0) (hE : ET a = []) (h0 : zpc me.1 0) (hn : z_cats as ≤ (Y a).2.2.1) (ho : o.1 = 1 ∨ o.1 = 2)
    (hb : zbody X (z_QF EX cl ft) Y W0 ET cl ft ρ b a d me.1 (z_args 0 as, [], z_in S) o) : zMet X (z_ws T0 (Y a)) cl ft ρ b d (Y a) as (z_in S) o := by
  intro l D ws tys n vs hst hD0 hw ha
  refine Met.ofW (cc := (Y a).2.1) (maxL := (Y a).2.2.1) (ret := (Y a).2.2.2) hy rfl ?_
  intro p e s m args below meth c s₁ B hml hv
  obtain ⟨rfl, hsz, hP, hK, hX⟩ := hv
  subst hsz
  have hts := atoms_spec (ws := z_ws T0 (Y a)) B.pre
  have hts2 : ∀ w ∈ W0 a, w.before vs.toArray s = true := by
    intro w hw9
    rw [hW] at hw9
    rcases List.mem_append.mp hw9 with h | h
    · exact hts w h
    · exact hN s b _ ρ _ hX w h
  have hET : c.exceptionTable.toList = ET a := by
    obtain ⟨meth9, c9, h1, h2, -, -, -, -, h7, -⟩ := Cond.code_spec B.named (hts _ List.mem_cons_self)
    cases Option.some.inj (h1.symm.trans B.method)
    cases Option.some.inj (h2.symm.trans (Stand.of_body B).code)
    rw [hE, Array.isEmpty_iff.mp h7]
  have hA : ∀ q : Nat, s.heap.size ≤ q → va_A ws s.heap.size q := fun q h => Or.inr h
  have hgo := hb p l e (headSpec (z_ws T0 (Y a)) (z_rm d o)).room s m vs.toArray below meth c D (va_A ws s.heap.size) (ws.map (fun q => q.1)) 0 _ h0 ⟨B.exec, B.bytes, hml, findClass_of_methodNamed B.named, hts2, hA, B.notSynchronized, (name_of_methodNamed B.named B.method).1⟩ hst hET B.returns ⟨Nat.le_refl _, Nat.le_refl _, Nat.le_refl _, Nat.le_refl _⟩ hX (fun h5 => absurd h5 (by omega)) (fun _ => rfl)
  have hent := zk_entry (vs := vs) hgo rfl rfl hn hP hD0.self hK hw (fun _ _ h => h) ha
  obtain ⟨o1, o2⟩ := o
  rcases ho with h | h
  · dsimp only at h
    subst h
    exact hent
  · dsimp only at h
    subst h
    exact hent
theorem z_closeX {ρ : Nat → Int32} {b a d : Nat} {me : zP} {as : List zV} {S : zS} {o : zR} (hy : plainName (Y a).1.cls = true) (hN : zNok X N0) (hW : W0 a = z_ws T0 (Y a) ++ N0) (hE : ET a = []) (h0 : zpc me.1 0) (hn : z_cats as ≤ (Y a).2.2.1) (ho : o.1 = 3)
    (hb : zbody X (z_QF EX cl ft) Y W0 ET cl ft ρ b a d me.1 (z_args 0 as, [], z_in S) o) : zMetX EX X (z_ws T0 (Y a)) cl ft ρ b d (Y a) as (z_in S) o := by
  intro l D ws tys n vs hst hD0 hw ha
  refine vx_ofW (cc := (Y a).2.1) (maxL := (Y a).2.2.1) (ret := (Y a).2.2.2) hy rfl ?_
  intro p e s m args below meth c s₁ B hml hemp hv
  obtain ⟨rfl, hsz, hP, hK, hX⟩ := hv
  subst hsz
  have hts := atoms_spec (ws := z_ws T0 (Y a)) B.pre
  have hts2 : ∀ w ∈ W0 a, w.before vs.toArray s = true := by
    intro w hw9
    rw [hW] at hw9
    rcases List.mem_append.mp hw9 with h | h
    · exact hts w h
    · exact hN s b _ ρ _ hX w h
  have hET : c.exceptionTable.toList = ET a := by
    rw [hE]
    exact List.eq_nil_iff_forall_not_mem.mpr (fun x hx => hemp x hx)
  have hA : ∀ q : Nat, s.heap.size ≤ q → va_A ws s.heap.size q := fun q h => Or.inr h
  have hgo := hb p l e (headSpec (z_ws T0 (Y a)) (z_rm d o)).room s m vs.toArray below meth c D (va_A ws s.heap.size) (ws.map (fun q => q.1)) 0 _ h0 ⟨B.exec, B.bytes, hml, findClass_of_methodNamed B.named, hts2, hA, B.notSynchronized, (name_of_methodNamed B.named B.method).1⟩ hst hET B.returns ⟨Nat.le_refl _, Nat.le_refl _, Nat.le_refl _, Nat.le_refl _⟩ hX (fun h5 => absurd h5 (by omega)) (fun _ => rfl)
  have hent := zk_entry (vs := vs) hgo rfl rfl hn hP hD0.self hK hw (fun _ _ h => h) ha
  obtain ⟨o1, o2⟩ := o
  dsimp only at ho
  subst ho
  exact hent
theorem z_closeH {hh : List (Nat × Nat × Nat × Nat)} {ρ : Nat → Int32} {b a d : Nat} {me : zP} {as : List zV} {S : zS} {o : zR} (hy : plainName (Y a).1.cls = true) (hN : zNok X N0) (hW : W0 a = z_wsH T0 (Y a) hh ++ N0) (hE : ET a = tableOf hh) (h0 : zpc me.1 0) (hn : z_cats as ≤ (Y a).2.2.1) (ho : o.1 = 1 ∨ o.1 = 2)
    (hb : zbody X (z_QF EX cl ft) Y W0 ET cl ft ρ b a d me.1 (z_args 0 as, [], z_in S) o) : zMet X (z_wsH T0 (Y a) hh) cl ft ρ b d (Y a) as (z_in S) o := by
  intro l D ws tys n vs hst hD0 hw ha
  refine va_MetW (hh := hh) (cc := (Y a).2.1) (maxL := (Y a).2.2.1) (ret := (Y a).2.2.2) hy rfl ?_
  intro p e s m args below meth c s₁ B hml hv
  obtain ⟨rfl, hsz, hP, hK, hX⟩ := hv
  subst hsz
  have hts := atoms_spec (ws := z_wsH T0 (Y a) hh) B.pre
  have hts2 : ∀ w ∈ W0 a, w.before vs.toArray s = true := by
    intro w hw9
    rw [hW] at hw9
    rcases List.mem_append.mp hw9 with h | h
    · exact hts w h
    · exact hN s b _ ρ _ hX w h
  have hET : c.exceptionTable.toList = ET a := (vx_table (x := (Y a).1) B (hts _ List.mem_cons_self)).trans hE.symm
  have hA : ∀ q : Nat, s.heap.size ≤ q → va_A ws s.heap.size q := fun q h => Or.inr h
  have hgo := hb p l e (headSpec (z_wsH T0 (Y a) hh) (z_rm d o)).room s m vs.toArray below meth c D (va_A ws s.heap.size) (ws.map (fun q => q.1)) 0 _ h0 ⟨B.exec, B.bytes, hml, findClass_of_methodNamed B.named, hts2, hA, B.notSynchronized, (name_of_methodNamed B.named B.method).1⟩ hst hET B.returns ⟨Nat.le_refl _, Nat.le_refl _, Nat.le_refl _, Nat.le_refl _⟩ hX (fun h5 => absurd h5 (by omega)) (fun _ => rfl)
  have hent := zk_entry (vs := vs) hgo rfl rfl hn hP hD0.self hK hw (fun _ _ h => h) ha
  obtain ⟨o1, o2⟩ := o
  rcases ho with h | h
  · dsimp only at h
    subst h
    exact hent
  · dsimp only at h
    subst h
    exact hent
end ZCL
