/-! A CALL THAT IS KNOWN -/
section ZSM
variable {EX : Nat → String} {X : State → Nat → (Nat → Prop) → (Nat → Int32) → Prop} {WL : Nat → List Cond} {Y : Nat → zY} {W0 : Nat → List Cond} {ET : Nat → List ExceptionTableEntry} {cl : List vw_C} {ft : List FieldType} {G : zG} {me : zP}
theorem ze_nil {ρ : Nat → Int32} {env : List (Nat × Nat)} (h : ze ρ env) : ze ρ [] := ⟨fun k q h => (by unfold z_at at h; cases h), h.2⟩
/-- a summary holds -/
def zSok (X : State → Nat → (Nat → Prop) → (Nat → Int32) → Prop) (WL : Nat → List Cond) (cl : List vw_C) (ft : List FieldType) (Y : Nat → zY) (q : zSum) : Prop :=
  ∃ (ls : zL) (st : List zV), ∀ (ρ : Nat → Int32) (b : Nat), ze ρ [] → zMet X (WL q.1.1) cl ft ρ b q.1.2 (Y q.1.1) q.2.1 (q.2.2.1, q.2.2.2.1, 0, 0) (1, q.2.2.2.2.1, ls, st, (q.2.2.2.2.2, q.2.2.2.1, 0, 0))
theorem zi_sum {a pc i bb ci : Nat} {q : zSum} (hq : z_at G.1.2 i = some q) (hS : zSok X WL cl ft Y q) (hrow : zRow X WL Y W0 cl ft a pc q.1.1 bb ci) :
    zIok X (Y a).1.cls (Y a).1.name (Y a).2.1 (Y a).2.2.1 (W0 a) cl ft G me (pc, 76, i, bb, ci) (pc + 3) := by
  intro p l e R s m args below meth c Q D A ρ b ad0 k hC hF hL he hX
  obtain ⟨ls1, st1, hM⟩ := hS
  have hM := hM ρ b (ze_nil he)
  show zres p l e R s m args below meth c Q D cl A ft ρ b _ ad0 me _ _ k (zs_sum G i bb ci k)
  unfold zs_sum
  rw [hq]
  cases hp : z_pop (bb / 64) k.2.1 [] with
  | none => exact trivial
  | some asst =>
    obtain ⟨as, st⟩ := asst
    dsimp only
    split
    · rename_i ht
      simp only [Bool.and_eq_true] at ht
      obtain ⟨⟨⟨⟨⟨t1, t2⟩, t3⟩, t4⟩, t5⟩, t6⟩ := ht
      have t4 := z_eqvs_ok t4
      have t5 := z_eqh_ok t5
      have t6 := z_eqn_ok t6
      intro hst hF9 hL9 r3 r4 kk
      obtain ⟨⟨f, d⟩, qa, qh, qt, qv, qh1⟩ := q
      dsimp only at *
      obtain ⟨ls0, st0, Sh, St, Sc, Ss⟩ := k
      dsimp only at *
      subst t4 t5 t6
      have hr := hrow p l e R s m args below meth c D A ρ b d as st (Sh, St, Sc, Ss) (1, qv, ls1, st1, (qh1, St, 0, 0)) hC hst hX hM (by omega) (by omega) r3 r4 (Nat.le_of_ble_eq_true t1) (z_pop_len hp) t3
      have ek : st0 = as.reverse ++ st := z_pop_eq hp
      rw [ek]
      exact zk_call (o := (1, qv, ls1, st1, (qh1, St, 0, 0))) hC.2.2.2.2.2.1 hr (fun _ => kk) (fun h => absurd (show (1 : Nat) = 2 from h) (by decide))
    · exact trivial
end ZSM
