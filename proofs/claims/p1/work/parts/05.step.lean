/-! STEPS OF THE ABSTRACT MACHINE, HELD BY THE REAL ONE -/
section ZGO
variable (p : Program) (l : Launch) (e : Env) (R : Room) (s : State) (m : MethodId) (args : Array Value) (below : List Frame) (meth : Method) (c : Code) (Q : State → Prop) (D : va_G) (cl : List vw_C) (A : Nat → Prop) (ft : List FieldType) (ρ : Nat → Int32) (b nL : Nat) (ad0 : List Nat)
/-- from every real state that an abstract one stands for the machine comes to Q -/
def zgo (pc : Nat) (k : zK) : Prop := ∀ (ws : va_W) (tys : List (ClassId × FieldType)) (H : Heap) (locs : List Loc) (ls : Array Slot) (lv : List (Nat × Value)) (st : List Value),
  va_P D cl ws H → va_D A ws → va_K D cl tys s → va_S A s.heap H locs → zw ft ρ b k.2.2 ws tys → (∀ i a : Nat, ad0[i]? = some a → (ws.map (fun q => q.1))[i]? = some a) → lv_has ls nL lv →
  zl (fun x y => x.1 = y.1 ∧ zv ρ b (ws.map (fun q => q.1)) x.2 y.2) k.1 lv → zl (zv ρ b (ws.map (fun q => q.1))) k.2.1 st → W p l e R s m args below meth c H locs k.2.2.2.2.1 k.2.2.2.2.2 Q (F0 m pc ls st)
end ZGO
section ZST
variable {p : Program} {l : Launch} {e : Env} {R : Room} {s : State} {m : MethodId} {args : Array Value} {below : List Frame} {meth : Method} {c : Code} {Q : State → Prop} {D : va_G} {cl : List vw_C} {A : Nat → Prop} {ft : List FieldType} {ρ : Nat → Int32} {b nL : Nat} {ad0 : List Nat}
variable {pc n : Nat}
/-- a value comes onto the stack -/
theorem zk_push {v : zV} {w : Value} (hv : ∀ ad, zv ρ b ad v w) (hr : ∀ (H : Heap) (locs : List Loc) (cells slots : Nat) (ls : Array Slot) (st : List Value), W p l e R s m args below meth c H locs cells slots Q (F0 m n ls (w :: st)) → W p l e R s m args below meth c H locs cells slots Q (F0 m pc ls st))
    (k : zK) (kk : zgo p l e R s m args below meth c Q D cl A ft ρ b nL ad0 n (k.1, v :: k.2.1, k.2.2)) : zgo p l e R s m args below meth c Q D cl A ft ρ b nL ad0 pc k := by
  intro ws tys H locs ls lv st hP hD hK hS hw had hl hlv hst
  exact hr _ _ _ _ _ _ (kk ws tys H locs ls lv (w :: st) hP hD hK hS hw had hl hlv ⟨hv _, hst⟩)
/-- nothing but the pc -/
theorem zk_nop (hr : ∀ (H : Heap) (locs : List Loc) (cells slots : Nat) (ls : Array Slot) (st : List Value), W p l e R s m args below meth c H locs cells slots Q (F0 m n ls st) → W p l e R s m args below meth c H locs cells slots Q (F0 m pc ls st))
    (k : zK) (kk : zgo p l e R s m args below meth c Q D cl A ft ρ b nL ad0 n k) : zgo p l e R s m args below meth c Q D cl A ft ρ b nL ad0 pc k := by
  intro ws tys H locs ls lv st hP hD hK hS hw had hl hlv hst
  exact hr _ _ _ _ _ _ (kk ws tys H locs ls lv st hP hD hK hS hw had hl hlv hst)
theorem zl_get {ad : List Nat} {i : Nat} {v : zV} : ∀ {ls : zL} {lv : List (Nat × Value)}, zl (fun x y => x.1 = y.1 ∧ zv ρ b ad x.2 y.2) ls lv → z_get ls i = some v → ∃ (j : Nat) (w : Value), lv[j]? = some (i, w) ∧ zv ρ b ad v w
  | [], _, _, h => by cases h
  | _ :: _, [], h, _ => h.elim
  | x :: ls, y :: lv, h, hg => by
    simp only [z_get] at hg
    split at hg
    · rename_i hb
      cases hg
      have e1 := Nat.eq_of_beq_eq_true hb
      refine ⟨0, y.2, ?_, h.1.2⟩
      rw [← e1, h.1.1]
      rfl
    · obtain ⟨j, w, h1, h2⟩ := zl_get h.2 hg
      exact ⟨j + 1, w, by simpa using h1, h2⟩
/-- a local comes onto the stack -/
theorem zk_load {a : Nat} {v : zV} (k : zK) (hg : z_get k.1 a = some v) (ok : Value → Prop) (hok : ∀ ad w, zv ρ b ad v w → ok w)
    (hr : ∀ (H : Heap) (locs : List Loc) (cells slots : Nat) (ls : Array Slot) (st : List Value) (w : Value), ok w → ls[a]? = some (.val w) → W p l e R s m args below meth c H locs cells slots Q (F0 m n ls (w :: st)) → W p l e R s m args below meth c H locs cells slots Q (F0 m pc ls st))
    (kk : zgo p l e R s m args below meth c Q D cl A ft ρ b nL ad0 n (k.1, v :: k.2.1, k.2.2)) : zgo p l e R s m args below meth c Q D cl A ft ρ b nL ad0 pc k := by
  intro ws tys H locs ls lv st hP hD hK hS hw had hl hlv hst
  obtain ⟨j, w, h1, h2⟩ := zl_get hlv hg
  exact hr _ _ _ _ _ _ w (hok _ _ h2) (lv_at hl j h1) (kk ws tys H locs ls lv (w :: st) hP hD hK hS hw had hl hlv ⟨h2, hst⟩)
theorem z_beq (x y : Nat) : Nat.beq x y = (x == y) := by
  rw [Bool.eq_iff_iff]
  exact ⟨fun h => beq_iff_eq.mpr (Nat.eq_of_beq_eq_true h), fun h => by rw [beq_iff_eq.mp h]; exact Nat.beq_refl y⟩
theorem zl_set1 {ad : List Nat} {a : Nat} {v : zV} {w : Value} {ls : zL} {lv : List (Nat × Value)} (h : zl (fun x y => x.1 = y.1 ∧ zv ρ b ad x.2 y.2) ls lv) (hv : zv ρ b ad v w) : zl (fun x y => x.1 = y.1 ∧ zv ρ b ad x.2 y.2) (z_set1 ls a v) ((a, w) :: lv.filter (fun q => !(q.1 == a) && !(q.1 + 1 == a && q.2.category == 2))) := by
  refine ⟨⟨rfl, hv⟩, zl_filter (fun x y q => ?_) h⟩
  rw [zv_cat q.2, ← q.1, ← z_beq, ← z_beq]
theorem zl_set2 {ad : List Nat} {a : Nat} {v : zV} {w : Value} {ls : zL} {lv : List (Nat × Value)} (h : zl (fun x y => x.1 = y.1 ∧ zv ρ b ad x.2 y.2) ls lv) (hv : zv ρ b ad v w) : zl (fun x y => x.1 = y.1 ∧ zv ρ b ad x.2 y.2) (z_set2 ls a v) ((a, w) :: lv.filter (fun q => !(q.1 == a) && (!(q.1 == a + 1) && !(q.1 + 1 == a && q.2.category == 2)))) := by
  refine ⟨⟨rfl, hv⟩, zl_filter (fun x y q => ?_) h⟩
  rw [zv_cat q.2, ← q.1, ← z_beq, ← z_beq, ← z_beq]
  show (!(Nat.beq x.1 a) && !(Nat.beq (x.1 + 1) a && z_isL x.2) && !(Nat.beq x.1 (a + 1))) = (!(Nat.beq x.1 a) && (!(Nat.beq x.1 (a + 1)) && !(Nat.beq (x.1 + 1) a && z_isL x.2)))
  cases Nat.beq x.1 a <;> cases (Nat.beq (x.1 + 1) a && z_isL x.2) <;> cases Nat.beq x.1 (a + 1) <;> rfl
/-- a value of one slot goes into a local -/
theorem zk_store1 {a : Nat} {v : zV} {r : List zV} {ls0 : zL} {S : zS} (ok : Value → Prop) (hok : ∀ ad w, zv ρ b ad v w → ok w)
    (hr : ∀ (H : Heap) (locs : List Loc) (cells slots : Nat) (ls : Array Slot) (st : List Value) (w : Value) (lv : List (Nat × Value)), ok w → lv_has ls nL lv → (∀ ls' : Array Slot, lv_has ls' nL ((a, w) :: lv.filter (fun q => !(q.1 == a) && !(q.1 + 1 == a && q.2.category == 2))) → W p l e R s m args below meth c H locs cells slots Q (F0 m n ls' st)) → W p l e R s m args below meth c H locs cells slots Q (F0 m pc ls (w :: st)))
    (kk : zgo p l e R s m args below meth c Q D cl A ft ρ b nL ad0 n (z_set1 ls0 a v, r, S)) : zgo p l e R s m args below meth c Q D cl A ft ρ b nL ad0 pc (ls0, v :: r, S) := by
  intro ws tys H locs ls lv st hP hD hK hS hw had hl hlv hst
  match st, hst with
  | w :: st, hst => exact hr _ _ _ _ _ _ w lv (hok _ _ hst.1) hl (fun ls' h' => kk ws tys H locs ls' _ st hP hD hK hS hw had h' (zl_set1 hlv hst.1) hst.2)
theorem zk_store2 {a : Nat} {v : zV} {r : List zV} {ls0 : zL} {S : zS} (ok : Value → Prop) (hok : ∀ ad w, zv ρ b ad v w → ok w)
    (hr : ∀ (H : Heap) (locs : List Loc) (cells slots : Nat) (ls : Array Slot) (st : List Value) (w : Value) (lv : List (Nat × Value)), ok w → lv_has ls nL lv → (∀ ls' : Array Slot, lv_has ls' nL ((a, w) :: lv.filter (fun q => !(q.1 == a) && (!(q.1 == a + 1) && !(q.1 + 1 == a && q.2.category == 2)))) → W p l e R s m args below meth c H locs cells slots Q (F0 m n ls' st)) → W p l e R s m args below meth c H locs cells slots Q (F0 m pc ls (w :: st)))
    (kk : zgo p l e R s m args below meth c Q D cl A ft ρ b nL ad0 n (z_set2 ls0 a v, r, S)) : zgo p l e R s m args below meth c Q D cl A ft ρ b nL ad0 pc (ls0, v :: r, S) := by
  intro ws tys H locs ls lv st hP hD hK hS hw had hl hlv hst
  match st, hst with
  | w :: st, hst => exact hr _ _ _ _ _ _ w lv (hok _ _ hst.1) hl (fun ls' h' => kk ws tys H locs ls' _ st hP hD hK hS hw had h' (zl_set2 hlv hst.1) hst.2)
/-- one value into one -/
theorem zk_1 {v u : zV} {r : List zV} {ls0 : zL} {S : zS} (f : Value → Value) (ok : Value → Prop) (hok : ∀ ad w, zv ρ b ad v w → ok w ∧ zv ρ b ad u (f w))
    (hr : ∀ (H : Heap) (locs : List Loc) (cells slots : Nat) (ls : Array Slot) (st : List Value) (w : Value), ok w → W p l e R s m args below meth c H locs cells slots Q (F0 m n ls (f w :: st)) → W p l e R s m args below meth c H locs cells slots Q (F0 m pc ls (w :: st)))
    (kk : zgo p l e R s m args below meth c Q D cl A ft ρ b nL ad0 n (ls0, u :: r, S)) : zgo p l e R s m args below meth c Q D cl A ft ρ b nL ad0 pc (ls0, v :: r, S) := by
  intro ws tys H locs ls lv st hP hD hK hS hw had hl hlv hst
  match st, hst with
  | w :: st, hst => exact hr _ _ _ _ _ _ w (hok _ _ hst.1).1 (kk ws tys H locs ls lv (f w :: st) hP hD hK hS hw had hl hlv ⟨(hok _ _ hst.1).2, hst.2⟩)
/-- two values into one -/
theorem zk_2 {v v2 u : zV} {r : List zV} {ls0 : zL} {S : zS} (f : Value → Value → Value) (ok : Value → Value → Prop) (hok : ∀ ad w w2, zv ρ b ad v w → zv ρ b ad v2 w2 → ok w w2 ∧ zv ρ b ad u (f w w2))
    (hr : ∀ (H : Heap) (locs : List Loc) (cells slots : Nat) (ls : Array Slot) (st : List Value) (w w2 : Value), ok w w2 → W p l e R s m args below meth c H locs cells slots Q (F0 m n ls (f w w2 :: st)) → W p l e R s m args below meth c H locs cells slots Q (F0 m pc ls (w2 :: w :: st)))
    (kk : zgo p l e R s m args below meth c Q D cl A ft ρ b nL ad0 n (ls0, u :: r, S)) : zgo p l e R s m args below meth c Q D cl A ft ρ b nL ad0 pc (ls0, v2 :: v :: r, S) := by
  intro ws tys H locs ls lv st hP hD hK hS hw had hl hlv hst
  match st, hst with
  | w2 :: w :: st, hst => exact hr _ _ _ _ _ _ w w2 (hok _ _ _ hst.2.1 hst.1).1 (kk ws tys H locs ls lv (f w w2 :: st) hP hD hK hS hw had hl hlv ⟨(hok _ _ _ hst.2.1 hst.1).2, hst.2.2⟩)
/-- one value goes -/
theorem zk_pop {v : zV} {r : List zV} {ls0 : zL} {S : zS} (ok : Value → Prop) (hok : ∀ ad w, zv ρ b ad v w → ok w)
    (hr : ∀ (H : Heap) (locs : List Loc) (cells slots : Nat) (ls : Array Slot) (st : List Value) (w : Value), ok w → W p l e R s m args below meth c H locs cells slots Q (F0 m n ls st) → W p l e R s m args below meth c H locs cells slots Q (F0 m pc ls (w :: st)))
    (kk : zgo p l e R s m args below meth c Q D cl A ft ρ b nL ad0 n (ls0, r, S)) : zgo p l e R s m args below meth c Q D cl A ft ρ b nL ad0 pc (ls0, v :: r, S) := by
  intro ws tys H locs ls lv st hP hD hK hS hw had hl hlv hst
  match st, hst with
  | w :: st, hst => exact hr _ _ _ _ _ _ w (hok _ _ hst.1) (kk ws tys H locs ls lv st hP hD hK hS hw had hl hlv hst.2)
/-- two values go -/
theorem zk_pop2 {v v2 : zV} {r : List zV} {ls0 : zL} {S : zS} (ok : Value → Value → Prop) (hok : ∀ ad w w2, zv ρ b ad v w → zv ρ b ad v2 w2 → ok w w2)
    (hr : ∀ (H : Heap) (locs : List Loc) (cells slots : Nat) (ls : Array Slot) (st : List Value) (w w2 : Value), ok w w2 → W p l e R s m args below meth c H locs cells slots Q (F0 m n ls st) → W p l e R s m args below meth c H locs cells slots Q (F0 m pc ls (w2 :: w :: st)))
    (kk : zgo p l e R s m args below meth c Q D cl A ft ρ b nL ad0 n (ls0, r, S)) : zgo p l e R s m args below meth c Q D cl A ft ρ b nL ad0 pc (ls0, v2 :: v :: r, S) := by
  intro ws tys H locs ls lv st hP hD hK hS hw had hl hlv hst
  match st, hst with
  | w2 :: w :: st, hst => exact hr _ _ _ _ _ _ w w2 (hok _ _ _ hst.2.1 hst.1) (kk ws tys H locs ls lv st hP hD hK hS hw had hl hlv hst.2.2)
/-- dup -/
theorem zk_dup {v : zV} {r : List zV} {ls0 : zL} {S : zS} (hl0 : z_isL v = false)
    (hr : ∀ (H : Heap) (locs : List Loc) (cells slots : Nat) (ls : Array Slot) (st : List Value) (w : Value), w.category = 1 → W p l e R s m args below meth c H locs cells slots Q (F0 m n ls (w :: w :: st)) → W p l e R s m args below meth c H locs cells slots Q (F0 m pc ls (w :: st)))
    (kk : zgo p l e R s m args below meth c Q D cl A ft ρ b nL ad0 n (ls0, v :: v :: r, S)) : zgo p l e R s m args below meth c Q D cl A ft ρ b nL ad0 pc (ls0, v :: r, S) := by
  intro ws tys H locs ls lv st hP hD hK hS hw had hl hlv hst
  match st, hst with
  | w :: st, hst => exact hr _ _ _ _ _ _ w (zv_cat1 hst.1 hl0) (kk ws tys H locs ls lv (w :: w :: st) hP hD hK hS hw had hl hlv ⟨hst.1, hst.1, hst.2⟩)
end ZST
