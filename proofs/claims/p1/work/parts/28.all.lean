/-! ALL METHODS TOGETHER -/
section ZAL
variable {X : State → Nat → (Nat → Prop) → (Nat → Int32) → Prop} {EX : Nat → String} {Y : Nat → zY} {W0 WL : Nat → List Cond} {ET : Nat → List ExceptionTableEntry} {cl : List vw_C} {ft : List FieldType} {T0 N0 : List Cond} {G : zG} {mt : List zP}
theorem z_closeXH {hh : List (Nat × Nat × Nat × Nat)} {ρ : Nat → Int32} {b a d : Nat} {me : zP} {as : List zV} {S : zS} {o : zR} (hy : plainName (Y a).1.cls = true) (hN : zNok X N0) (hW : W0 a = z_wsH T0 (Y a) hh ++ N0) (hE : ET a = tableOf hh) (h0 : zpc me.1 0) (hn : z_cats as ≤ (Y a).2.2.1) (ho : o.1 = 3)
    (hb : zbody X (z_QF EX cl ft) Y W0 ET cl ft ρ b a d me.1 (z_args 0 as, [], z_in S) o) : zMetX EX X (z_wsH T0 (Y a) hh) cl ft ρ b d (Y a) as (z_in S) o := by
  intro l D ws tys n vs hst hD0 hw ha
  refine vx_ofWH (hh := hh) (cc := (Y a).2.1) (maxL := (Y a).2.2.1) (ret := (Y a).2.2.2) hy rfl ?_
  intro p e s m args below meth c s₁ B hml hv
  obtain ⟨rfl, hsz, hP, hK, hX⟩ := hv
  subst hsz
  have hts := atoms_spec (ws := z_wsH T0 (Y a) hh) B.pre
  have hts2 : ∀ w ∈ W0 a, w.before vs.toArray s = true := by
    intro w hw9
    rw [hW] at hw9
    rcases List.mem_append.mp hw9 with h | h
    · exact hts w h
    · exact hN s b _ ρ _ hX w h
  have hET : c.exceptionTable.toList = ET a := (vx_table (x := (Y a).1) B (hts _ List.mem_cons_self)).trans hE.symm
  have hA : ∀ q : Nat, s.heap.size ≤ q → va_A ws s.heap.size q := fun q h => Or.inr h
  have hgo := hb p l e (headSpec (z_wsH T0 (Y a) hh) (z_rm d o)).room s m vs.toArray below meth c D (va_A ws s.heap.size) (ws.map (fun q => q.1)) 0 _ h0 ⟨B.exec, B.bytes, hml, findClass_of_methodNamed B.named, hts2, hA, B.notSynchronized, (name_of_methodNamed B.named B.method).1⟩ hst hET B.returns ⟨Nat.le_refl _, Nat.le_refl _, Nat.le_refl _, Nat.le_refl _⟩ hX (fun h5 => absurd h5 (by omega)) (fun _ => rfl)
  have hent := zk_entry (vs := vs) hgo rfl rfl hn hP hD0.self hK hw (fun _ _ h => h) ha
  obtain ⟨o1, o2⟩ := o
  dsimp only at ho
  subst ho
  exact hent
/-- a method's words: it has no handlers, or these -/
def zWok (Y : Nat → zY) (W0 WL : Nat → List Cond) (ET : Nat → List ExceptionTableEntry) (T0 N0 : List Cond) (a : Nat) : Prop :=
  plainName (Y a).1.cls = true ∧ W0 a = WL a ++ N0 ∧ ((WL a = z_ws T0 (Y a) ∧ ET a = []) ∨ ∃ hh, WL a = z_wsH T0 (Y a) hh ∧ ET a = tableOf hh)
theorem z_hZ {ρ : Nat → Int32} {b : Nat} (hN : zNok X N0) (hmt : ∀ (a : Nat) (me : zP), z_at mt a = some me → zWok Y W0 WL ET T0 N0 a ∧ zpc me.1 0) :
    ∀ (a : Nat) (me : zP) (d : Nat) (as : List zV) (S : zS) (o : zR), z_at mt a = some me → z_cats as ≤ (Y a).2.2.1 → (o.1 = 1 ∨ o.1 = 2 ∨ o.1 = 3) → zbody X (z_QF EX cl ft) Y W0 ET cl ft ρ b a d me.1 (z_args 0 as, [], z_in S) o → z_zm EX X WL cl ft Y ρ b a d as (z_in S) o := by
  intro a me d as S o ha hn ho hb
  obtain ⟨⟨hy, hW, hk⟩, h0⟩ := hmt a me ha
  rcases hk with ⟨hwl, hE⟩ | ⟨hh, hwl, hE⟩
  · rw [hwl] at hW
    refine ⟨fun h => ?_, fun h => ?_⟩
    · rw [hwl]; exact z_close hy hN hW hE h0 hn h hb
    · rw [hwl]; exact z_closeX hy hN hW hE h0 hn h hb
  · rw [hwl] at hW
    refine ⟨fun h => ?_, fun h => ?_⟩
    · rw [hwl]; exact z_closeH hy hN hW hE h0 hn h hb
    · rw [hwl]; exact z_closeXH hy hN hW hE h0 hn h hb
/-- a run of the abstract machine is a contract -/
theorem z_all {ρ : Nat → Int32} {b : Nat} (he : ze ρ G.2.2.2) (hN : zNok X N0) (hmt : ∀ (a : Nat) (me : zP), z_at mt a = some me → zWok Y W0 WL ET T0 N0 a ∧ zpc me.1 0 ∧ zcode X (z_QF EX cl ft) (z_zm EX X WL cl ft Y) Y W0 ET cl ft G a me me.1)
    {f d a : Nat} {me : zP} {as : List zV} {S : zS} {o : zR} (ha : z_at mt a = some me) (hn : z_cats as ≤ (Y a).2.2.1) (h : zx mt G f d me me.1 (z_args 0 as, [], z_in S) = o) (ho : o.1 = 1 ∨ o.1 = 2 ∨ o.1 = 3) : z_zm EX X WL cl ft Y ρ b a d as (z_in S) o := by
  have hZ := z_hZ (EX := EX) (cl := cl) (ft := ft) (ρ := ρ) (b := b) (mt := mt) hN (fun a me ha => ⟨(hmt a me ha).1, (hmt a me ha).2.1⟩)
  exact hZ a me d as S o ha hn ho (z_sound he (fun a me ha => ⟨(hmt a me ha).2.2, (hmt a me ha).2.1⟩) hZ f d a me me.1 _ o ha (hmt a me ha).2.2 h (by unfold zGd; omega))
end ZAL
