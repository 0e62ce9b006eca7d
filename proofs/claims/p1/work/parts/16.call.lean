/-! CALLS -/
/-- what a callee says at its end: A1 what it may have written, ad the addresses that were there -/
def zQ (D : va_G) (cl : List vw_C) (ft : List FieldType) (ρ : Nat → Int32) (b : Nat) (A1 : Nat → Prop) (ad : List Nat) (o : zR) : State → Outcome → State → Prop := fun st oc t =>
  ∃ (ws : va_W) (tys : List (ClassId × FieldType)), (match o.1 with
    | 1 => ∃ w, oc = .returned (some w) ∧ zv ρ b (ws.map (fun q => q.1)) o.2.1 w
    | 2 => oc = .returned none
    | _ => False) ∧ va_P D cl ws t.heap ∧ va_K D cl tys t ∧ va_D A1 ws ∧ zw ft ρ b o.2.2.2.2 ws tys ∧ (∀ i a : Nat, ad[i]? = some a → (ws.map (fun q => q.1))[i]? = some a) ∧ va_F A1 st t
theorem zl_app {α β : Type} {P : α → β → Prop} : ∀ {l1 l2 : List α} {m : List β}, zl P (l1 ++ l2) m → ∃ m1 m2, m = m1 ++ m2 ∧ zl P l1 m1 ∧ zl P l2 m2
  | [], l2, m, h => ⟨[], m, rfl, trivial, h⟩
  | a :: l1, l2, [], h => h.elim
  | a :: l1, l2, x :: m, h => by
    obtain ⟨m1, m2, e1, e2, e3⟩ := zl_app h.2
    exact ⟨x :: m1, m2, by rw [e1]; rfl, ⟨h.1, e2⟩, e3⟩
theorem zl_rev {α β : Type} {P : α → β → Prop} : ∀ {l : List α} {m : List β}, zl P l m → zl P l.reverse m.reverse
  | [], [], _ => trivial
  | [], _ :: _, h => h.elim
  | _ :: _, [], h => h.elim
  | a :: l, x :: m, h => by
    rw [List.reverse_cons, List.reverse_cons]
    have key : ∀ {l1 : List α} {m1 : List β}, zl P l1 m1 → zl P (l1 ++ [a]) (m1 ++ [x]) := by
      intro l1
      induction l1 with
      | nil => intro m1 h1; cases m1 with
        | nil => exact ⟨h.1, trivial⟩
        | cons _ _ => exact h1.elim
      | cons b l1 ih => intro m1 h1; cases m1 with
        | nil => exact h1.elim
        | cons y m1 => exact ⟨h1.1, ih h1.2⟩
    exact key (zl_rev h.2)
theorem z_pop_eq : ∀ {n : Nat} {st acc as r : List zV}, z_pop n st acc = some (as, r) → acc.reverse ++ st = as.reverse ++ r
  | 0, st, acc, as, r, h => by
    unfold z_pop at h
    cases h
    rfl
  | n + 1, [], acc, as, r, h => by cases h
  | n + 1, v :: st, acc, as, r, h => by
    have := z_pop_eq (n := n) (st := st) (acc := v :: acc) h
    rw [List.reverse_cons, List.append_assoc] at this
    exact this
section ZC
variable {p : Program} {l : Launch} {e : Env} {R : Room} {s : State} {m : MethodId} {args : Array Value} {below : List Frame} {meth : Method} {c : Code} {Q : State → Prop} {D : va_G} {cl : List vw_C} {A : Nat → Prop} {ft : List FieldType} {ρ : Nat → Int32} {b nL : Nat} {ad0 : List Nat}
variable {pc : Nat}
/-- the world that a callee may write lies in the caller's -/
theorem z_inA {ws : va_W} {H : Heap} (hD : va_D A ws) (hS : va_S A s.heap H ([] : List Loc)) (hA : ∀ q, s.heap.size ≤ q → A q) : ∀ q, va_A ws H.size q → A q := by
  intro q h
  rcases h with ⟨k, e0, h⟩ | h
  · exact hD.2 k _ h
  · exact hA q (Nat.le_trans hS.1 h)
theorem z_inA' {ws : va_W} {H : Heap} {locs : List Loc} (hD : va_D A ws) (hS : va_S A s.heap H locs) (hA : ∀ q, s.heap.size ≤ q → A q) : ∀ q, va_A ws H.size q → A q := by
  intro q h
  rcases h with ⟨k, e0, h⟩ | h
  · exact hD.2 k _ h
  · exact hA q (Nat.le_trans hS.1 h)
/-- the row of a call that returns as o says -/
abbrev z_callRow (p : Program) (l : Launch) (e : Env) (R : Room) (s : State) (m : MethodId) (args : Array Value) (below : List Frame) (meth : Method) (c : Code) (D : va_G) (cl : List vw_C) (A : Nat → Prop) (ft : List FieldType) (ρ : Nat → Int32) (b nL pc : Nat) (as st : List zV) (S : zS) (o : zR) : Prop :=
  ∀ (ws : va_W) (tys : List (ClassId × FieldType)) (H : Heap) (locs : List Loc) (ls : Array Slot) (vs rest : List Value), va_P D cl ws H → va_D A ws → va_K D cl tys s → va_S A s.heap H locs → zw ft ρ b S ws tys → ls.size = nL → zl (zv ρ b (ws.map (fun q => q.1))) as vs → zl (zv ρ b (ws.map (fun q => q.1))) st rest →
    va_Run p l e R s m args below meth c H locs S.2.2.1 S.2.2.2 o.2.2.2.2.2.2.1 o.2.2.2.2.2.2.2 (F0 m pc ls (vs.reverse ++ rest)) rest (zQ D cl ft ρ b (va_A ws H.size) (ws.map (fun q => q.1)) o) (va_A ws H.size)
theorem zk_call {as st : List zV} {ls0 : zL} {S : zS} {o : zR} (hA : ∀ q, s.heap.size ≤ q → A q) (hr : z_callRow p l e R s m args below meth c D cl A ft ρ b nL pc as st S o) (k1 : o.1 = 1 → zgo p l e R s m args below meth c Q D cl A ft ρ b nL ad0 (pc + 3) (ls0, o.2.1 :: st, z_grow S o.2.2.2.2)) (k2 : o.1 = 2 → zgo p l e R s m args below meth c Q D cl A ft ρ b nL ad0 (pc + 3) (ls0, st, z_grow S o.2.2.2.2)) :
    zgo p l e R s m args below meth c Q D cl A ft ρ b nL ad0 pc (ls0, as.reverse ++ st, S) := by
  intro ws tys H locs ls lv st9 hP hD hK hS hw had hl hlv hst
  obtain ⟨vr, rest, e1, g1, g2⟩ := zl_app hst
  have g3 := zl_rev g1
  rw [List.reverse_reverse] at g3
  have hrun := hr ws tys H locs ls vr.reverse rest hP hD hK hS hw hl.1 g3 g2
  rw [List.reverse_reverse, ← e1] at hrun
  intro T hT X
  obtain ⟨v, st₀, t, T', L, h0, X', hL, f1, f2, ⟨ws1, tys1, hv, hP1, hK1, hD1, hw1, had1, hz, hk⟩, stp⟩ := hrun T hT X
  rw [h0] at hz hk
  have hin := z_inA' (s := s) hD hS hA
  have hS1 : va_S A s.heap T'.heap (locs ++ L) := ⟨Nat.le_trans hS.1 (by rw [f1]; exact hz), fun q h1 h2 => by rw [f1, hk q (Nat.lt_of_lt_of_le h1 hS.1) (fun z => h2 (hin q z))]; exact hS.2.1 q h1 h2, fun q hq => by
    rcases List.mem_append.mp hq with h | h
    · exact hS.2.2 q h
    · exact hin _ (hL q h)⟩
  have hK2 : va_K D cl tys1 s := va_K.moved (by rw [← f2]; exact X'.warmed.alike.symm) hK1
  have hP2 : va_P D cl ws1 T'.heap := by rw [f1]; exact hP1
  have hD2 : va_D A ws1 := hD1.weaken (fun k q _ h => hin q.1 h)
  have hwg : zw ft ρ b (z_grow S o.2.2.2.2) ws1 tys1 := hw1
  obtain ⟨o1, o2, o3⟩ := o
  match o1, hv with
  | 1, hv =>
    obtain ⟨w, hv1, hv2⟩ := hv
    cases hv1
    obtain ⟨t2, a1, b1⟩ := k1 rfl ws1 tys1 T'.heap (locs ++ L) ls lv (w :: rest) hP2 hD2 hK2 hS1 hwg (fun i a h => had1 i a (had i a h)) hl (zl_moreL had1 hlv) ⟨hv2, zl_more had1 g2⟩ T' rfl X'
    exact ⟨t2, stp t2 a1, b1⟩
  | 2, hv =>
    cases hv
    obtain ⟨t2, a1, b1⟩ := k2 rfl ws1 tys1 T'.heap (locs ++ L) ls lv rest hP2 hD2 hK2 hS1 hwg (fun i a h => had1 i a (had i a h)) hl (zl_moreL had1 hlv) (zl_more had1 g2) T' rfl X'
    exact ⟨t2, stp t2 a1, b1⟩
  | 0, hv => exact hv.elim
  | _ + 3, hv => exact hv.elim
end ZC
