/-! FIELDS AND ROWS -/
section ZH
variable {p : Program} {l : Launch} {e : Env} {R : Room} {s : State} {m : MethodId} {args : Array Value} {below : List Frame} {meth : Method} {c : Code} {Q : State → Prop} {D : va_G} {cl : List vw_C} {A : Nat → Prop} {ft : List FieldType} {ρ : Nat → Int32} {b nL : Nat} {ad0 : List Nat} {env : List (Nat × Nat)}
variable {pc n : Nat}
/-- the thing that a reference means -/
theorem zw_ref {S : zS} {ws : va_W} {tys : List (ClassId × FieldType)} {x : zV} {w : Value} {c : zC} (hw : zw ft ρ b S ws tys) (h6 : x.1 = 6) (hx : zv ρ b (ws.map (fun q => q.1)) x w) (hc : z_cat S.1 x.2 = some c) : ∃ (a : Nat) (e0 : va_E), w = .ref a ∧ ws[x.2]? = some (a, e0) ∧ zc ρ b (ws.map (fun q => q.1)) tys c e0 := by
  obtain ⟨t, k⟩ := x
  dsimp only at h6 hc
  subst h6
  obtain ⟨a, h1, h2⟩ := hx
  obtain ⟨⟨a2, e0⟩, h3, h4⟩ := zw_get hw hc
  rw [List.getElem?_map] at h1
  dsimp only at h1 h3 ⊢
  rw [h3] at h1
  cases h1
  exact ⟨_, e0, h2, h3, h4⟩
theorem zc_obj {ad : List Nat} {tys : List (ClassId × FieldType)} {c : zC} {e0 : va_E} (h0 : c.1 = 0) (h : zc ρ b ad tys c e0) : ∃ fs, e0 = .inr (c.2.1, fs) ∧ zl (zv ρ b ad) c.2.2.2 fs := by
  obtain ⟨t, x, n, q⟩ := c
  dsimp only at h0
  subst h0
  exact h
theorem zk_getf {a j : Nat} {x v : zV} {t : zC} {r : List zV} {ls0 : zL} {S : zS} (hc : z_cat S.1 x.2 = some t) (h6 : x.1 = 6) (h0 : t.1 = 0) (ha : t.2.1 = a) (hv : z_at t.2.2.2 j = some v)
    (hr : ∀ (H : Heap) (locs : List Loc) (cells slots : Nat) (ls : Array Slot) (st : List Value) (ws : va_W) (tys : List (ClassId × FieldType)) (q o : Nat) (fs : List Value) (w : Value), va_P D cl ws H → va_K D cl tys s → ws[q]? = some (o, .inr (a, fs)) → fs[j]? = some w → W p l e R s m args below meth c H locs cells slots Q (F0 m n ls (w :: st)) → W p l e R s m args below meth c H locs cells slots Q (F0 m pc ls (.ref o :: st)))
    (kk : zgo p l e R s m args below meth c Q D cl A ft ρ b nL ad0 n (ls0, v :: r, S)) : zgo p l e R s m args below meth c Q D cl A ft ρ b nL ad0 pc (ls0, x :: r, S) := by
  intro ws tys H locs ls lv st hP hD hK hS hw had hl hlv hst
  match st, hst with
  | w1 :: st, hst =>
    obtain ⟨o, e0, rfl, h1, h2⟩ := zw_ref hw h6 hst.1 hc
    obtain ⟨fs, rfl, h3⟩ := zc_obj h0 h2
    obtain ⟨w, h4, h5⟩ := zl_at h3 hv
    subst ha
    exact hr _ _ _ _ _ _ ws tys _ _ fs w hP hK h1 h4 (kk ws tys H locs ls lv (w :: st) hP hD hK hS hw had hl hlv ⟨h5, hst.2⟩)
theorem zk_putf {a j : Nat} {x v : zV} {t : zC} {r : List zV} {ls0 : zL} {S : zS} (hc : z_cat S.1 x.2 = some t) (h6 : x.1 = 6) (h0 : t.1 = 0) (ha : t.2.1 = a) (hj : j < t.2.2.2.length) (ok : Value → Prop) (hok : ∀ ad w, zv ρ b ad v w → ok w)
    (hr : ∀ (H : Heap) (locs : List Loc) (cells slots : Nat) (ls : Array Slot) (st : List Value) (ws : va_W) (tys : List (ClassId × FieldType)) (q o : Nat) (fs : List Value) (w : Value), va_P D cl ws H → va_D A ws → va_K D cl tys s → va_S A s.heap H locs → ws[q]? = some (o, .inr (a, fs)) → j < fs.length → ok w →
      (∀ (H1 : Heap) (locs1 : List Loc), va_P D cl (ws.set q (o, .inr (a, fs.set j w))) H1 → va_D A (ws.set q (o, .inr (a, fs.set j w))) → va_S A s.heap H1 locs1 → W p l e R s m args below meth c H1 locs1 cells slots Q (F0 m n ls st)) → W p l e R s m args below meth c H locs cells slots Q (F0 m pc ls (w :: .ref o :: st)))
    (kk : zgo p l e R s m args below meth c Q D cl A ft ρ b nL ad0 n (ls0, r, z_with S x.2 (0, a, t.2.2.1, z_put t.2.2.2 j v))) : zgo p l e R s m args below meth c Q D cl A ft ρ b nL ad0 pc (ls0, v :: x :: r, S) := by
  intro ws tys H locs ls lv st hP hD hK hS hw had hl hlv hst
  match st, hst with
  | w :: w1 :: st, hst =>
    obtain ⟨o, e0, rfl, h1, h2⟩ := zw_ref hw h6 hst.2.1 hc
    obtain ⟨fs, rfl, h3⟩ := zc_obj h0 h2
    subst ha
    have hk : x.2 < ws.length := (List.getElem?_eq_some_iff.mp h1).1
    have hm : (ws.set x.2 (o, .inr (t.2.1, fs.set j w))).map (fun q => q.1) = ws.map (fun q => q.1) := by
      rw [List.map_set]
      refine List.ext_getElem? fun i => ?_
      by_cases hi : x.2 = i
      · subst hi
        rw [List.getElem?_set_self (by simpa using hk), List.getElem?_map, h1]
        rfl
      · rw [List.getElem?_set_ne hi]
    refine hr _ _ _ _ _ _ ws tys _ _ fs w hP hD hK hS h1 (by rw [zl_len h3]; exact hj) (hok _ _ hst.1) (fun H1 locs1 hP1 hD1 hS1 => ?_)
    refine kk _ tys H1 locs1 ls lv st hP1 hD1 hK hS1 (zw_put hw h1 ⟨fs.set j w, rfl, zl_put hst.1 j h3⟩) ?_ hl ?_ ?_
    · rw [hm]; exact had
    · rw [hm]; exact hlv
    · rw [hm]; exact hst.2.2
/-- the same addresses -/
theorem zw_same {ws : va_W} {k o : Nat} {e0 e1 : va_E} (h1 : ws[k]? = some (o, e0)) : (ws.set k (o, e1)).map (fun q => q.1) = ws.map (fun q => q.1) := by
  have hk : k < ws.length := (List.getElem?_eq_some_iff.mp h1).1
  rw [List.map_set]
  refine List.ext_getElem? fun i => ?_
  by_cases hi : k = i
  · subst hi
    rw [List.getElem?_set_self (by simpa using hk), List.getElem?_map, h1]
    rfl
  · rw [List.getElem?_set_ne hi]
/-- an index that is known -/
theorem z_in1 {j N : Nat} (h1 : Nat.blt j N = true) (h2 : Nat.blt N z_31 = true) : vp_in (nI j) N ∧ (nI j).toNatClampNeg = j := by
  have a : j < N := Nat.le_of_ble_eq_true h1
  have b : N < 2147483648 := Nat.le_of_ble_eq_true h2
  exact ⟨vp_in_nI a (by omega), nI_clamp (by omega)⟩
/-- an index of a range -/
theorem z_in2 {x : Int32} {q : Nat × Nat} {N : Nat} (hq : q.1 ≤ zu x ∧ zu x ≤ q.2) (h1 : Nat.ble z_31 q.1 = true) (h2 : Nat.blt q.2 (z_31 + N) = true) (h3 : Nat.blt N z_31 = true) : vp_in x N ∧ x.toNatClampNeg < N := by
  have a : z_31 ≤ q.1 := Nat.le_of_ble_eq_true h1
  have b : q.2 < z_31 + N := Nat.le_of_ble_eq_true h2
  have d := zu_int x
  unfold z_31 at a b
  have hin : vp_in x N := vp_in_iff.mpr ⟨by omega, by omega⟩
  exact ⟨hin, Nat.not_le.mp fun z => hin (Or.inr z)⟩
/-- a row of ints -/
theorem zc_ints {ad : List Nat} {tys : List (ClassId × FieldType)} {t : zC} {e0 : va_E} (h0 : t.1 = 1 ∨ t.1 = 2) (h : zc ρ b ad tys t e0) : ∃ (cA : ClassId) (f : Nat → Int32) (ty : FieldType), e0 = .inl (cA, t.2.2.1, .inl f) ∧ tys[t.2.1]? = some (cA, ty) ∧
    (∀ (j : Nat) (v : zV), z_ald t j = some v → zv ρ b ad v (.int (f j))) ∧ (t.1 = 2 → ∀ (j : Nat) (v : zV), j < t.2.2.1 → z_at t.2.2.2 0 = some v → zv ρ b ad v (.int (f j))) := by
  obtain ⟨k, x, N, q⟩ := t
  dsimp only at h0
  rcases h0 with rfl | rfl
  · obtain ⟨cA, f, ty, h1, h2, h3⟩ := h
    refine ⟨cA, f, ty, h1, h2, fun j v hv => ?_, fun z => absurd (show (1 : Nat) = 2 from z) (by decide)⟩
    unfold z_ald at hv
    split at hv
    · exact h3 j v hv
    · cases hv
  · obtain ⟨cA, f, ty, h1, h2, h3⟩ := h
    refine ⟨cA, f, ty, h1, h2, fun j v hv => ?_, fun _ j v hj hv => h3 j v hj hv⟩
    unfold z_ald at hv
    split at hv
    · rename_i hb
      simp only [Bool.and_eq_true] at hb
      exact h3 j v (Nat.le_of_ble_eq_true hb.1) hv
    · cases hv
/-- a load: the index is known -/
theorem zk_iald {x y v : zV} {t : zC} {j : Nat} {r : List zV} {ls0 : zL} {S : zS} (ok : FieldType → Prop) (he : ze ρ env) (hc : z_cat S.1 x.2 = some t) (h6 : x.1 = 6) (h0 : t.1 = 1 ∨ t.1 = 2) (hok : ∃ w, z_at S.2.1 t.2.1 = some w ∧ ok (z_ty ft w)) (hy : z_kn env y = some j) (hv : z_ald t j = some v)
    (hr : ∀ (H : Heap) (locs : List Loc) (cells slots : Nat) (ls : Array Slot) (st : List Value) (ws : va_W) (tys : List (ClassId × FieldType)) (q t0 o N : Nat) (cA : ClassId) (ty : FieldType) (f : Nat → Int32) (i : Int32), va_P D cl ws H → va_K D cl tys s → ws[q]? = some (o, .inl (cA, N, .inl f)) → tys[t0]? = some (cA, ty) → ok ty → vp_in i N → W p l e R s m args below meth c H locs cells slots Q (F0 m n ls (.int (f i.toNatClampNeg) :: st)) → W p l e R s m args below meth c H locs cells slots Q (F0 m pc ls (.int i :: .ref o :: st)))
    (kk : zgo p l e R s m args below meth c Q D cl A ft ρ b nL ad0 n (ls0, v :: r, S)) : zgo p l e R s m args below meth c Q D cl A ft ρ b nL ad0 pc (ls0, y :: x :: r, S) := by
  intro ws tys H locs ls lv st hP hD hK hS hw had hl hlv hst
  match st, hst with
  | w2 :: w1 :: st, hst =>
    obtain ⟨o, e0, rfl, h1, h2⟩ := zw_ref hw h6 hst.2.1 hc
    obtain ⟨cA, f, ty, rfl, h3, h4, -⟩ := zc_ints h0 h2
    have e2 := zv_kn he hst.1 hy
    subst e2
    obtain ⟨w, hw1, hw2⟩ := hok
    have hty : ty = z_ty ft w := by
      have := congrArg (fun z => z[t.2.1]?) hw.2.1
      dsimp only at this
      rw [List.getElem?_map, List.getElem?_map, h3, ← z_at_get, hw1] at this
      exact Option.some.inj this
    have hb : (Nat.blt j t.2.2.1 && Nat.blt t.2.2.1 z_31) = true := by
      unfold z_ald at hv
      split at hv
      · assumption
      · cases hv
    simp only [Bool.and_eq_true] at hb
    obtain ⟨i1, i2⟩ := z_in1 hb.1 hb.2
    refine hr _ _ _ _ _ _ ws tys _ _ o _ cA ty f (nI j) hP hK h1 h3 (by rw [hty]; exact hw2) i1 (kk ws tys H locs ls lv _ hP hD hK hS hw had hl hlv ⟨?_, hst.2.2⟩)
    rw [i2]
    exact h4 j v hv
/-- the type of a row, by its number -/
theorem zw_ty {S : zS} {ws : va_W} {tys : List (ClassId × FieldType)} {k w : Nat} {cA : ClassId} {ty : FieldType} (hw : zw ft ρ b S ws tys) (h3 : tys[k]? = some (cA, ty)) (h4 : z_at S.2.1 k = some w) : ty = z_ty ft w := by
  have := congrArg (fun z => z[k]?) hw.2.1
  rw [List.getElem?_map, List.getElem?_map, h3, ← z_at_get, h4] at this
  exact Option.some.inj this
/-- a load: the row is alike, the index of a range -/
theorem zk_ialdR {x y v : zV} {t : zC} {r : List zV} {ls0 : zL} {S : zS} (ok : FieldType → Prop) (he : ze ρ env) (hc : z_cat S.1 x.2 = some t) (h6 : x.1 = 6) (h0 : t.1 = 2) (hok : ∃ w, z_at S.2.1 t.2.1 = some w ∧ ok (z_ty ft w)) (hy : z_alike t env y = true) (hv : z_at t.2.2.2 0 = some v)
    (hr : ∀ (H : Heap) (locs : List Loc) (cells slots : Nat) (ls : Array Slot) (st : List Value) (ws : va_W) (tys : List (ClassId × FieldType)) (q t0 o N : Nat) (cA : ClassId) (ty : FieldType) (f : Nat → Int32) (i : Int32), va_P D cl ws H → va_K D cl tys s → ws[q]? = some (o, .inl (cA, N, .inl f)) → tys[t0]? = some (cA, ty) → ok ty → vp_in i N → W p l e R s m args below meth c H locs cells slots Q (F0 m n ls (.int (f i.toNatClampNeg) :: st)) → W p l e R s m args below meth c H locs cells slots Q (F0 m pc ls (.int i :: .ref o :: st)))
    (kk : zgo p l e R s m args below meth c Q D cl A ft ρ b nL ad0 n (ls0, v :: r, S)) : zgo p l e R s m args below meth c Q D cl A ft ρ b nL ad0 pc (ls0, y :: x :: r, S) := by
  intro ws tys H locs ls lv st hP hD hK hS hw had hl hlv hst
  match st, hst with
  | w2 :: w1 :: st, hst =>
    obtain ⟨o, e0, rfl, h1, h2⟩ := zw_ref hw h6 hst.2.1 hc
    obtain ⟨cA, f, ty, rfl, h3, -, h4⟩ := zc_ints (Or.inr h0) h2
    obtain ⟨w, hw1, hw2⟩ := hok
    have hty := zw_ty hw h3 hw1
    unfold z_alike at hy
    cases hq : z_rg env y with
    | none => rw [hq] at hy; simp at hy
    | some q =>
      rw [hq] at hy
      simp only [Bool.and_eq_true] at hy
      obtain ⟨i, rfl, hi⟩ := zv_rg he hst.1 hq
      obtain ⟨i1, i2⟩ := z_in2 hi hy.2.1.1 hy.2.1.2 hy.2.2
      exact hr _ _ _ _ _ _ ws tys _ _ o _ cA ty f i hP hK h1 h3 (by rw [hty]; exact hw2) i1 (kk ws tys H locs ls lv _ hP hD hK hS hw had hl hlv ⟨h4 h0 _ v i2 hv, hst.2.2⟩)
/-- a store of an int -/
theorem zc_iast {ad : List Nat} {tys : List (ClassId × FieldType)} {t t2 : zC} {cA : ClassId} {f : Nat → Int32} {ty : FieldType} {j : Nat} {v : zV} {i : Int32} (h0 : t.1 = 1 ∨ t.1 = 2) (h3 : tys[t.2.1]? = some (cA, ty)) (h : zc ρ b ad tys t (.inl (cA, t.2.2.1, .inl f))) (h2 : z_iast t j v = some t2) (hv : zv ρ b ad v (.int i)) : zc ρ b ad tys t2 (.inl (cA, t.2.2.1, .inl (upd f j i))) := by
  obtain ⟨k, x, N, q⟩ := t
  dsimp only at h0 h3 ⊢
  unfold z_iast at h2
  split at h2
  · rcases h0 with rfl | rfl
    · have h2 := Option.some.inj h2
      subst h2
      obtain ⟨cA', f', ty', e1, e2, e3⟩ := h
      cases e1
      refine ⟨cA, upd f j i, ty, rfl, h3, fun a w hw => ?_⟩
      dsimp only at hw
      rw [z_put_set, z_at_get] at hw
      by_cases ha : a = j
      · subst ha
        rw [pk_us]
        have hl : a < q.length := by
          have := (List.getElem?_eq_some_iff.mp hw).1
          rwa [List.length_set] at this
        rw [List.getElem?_set_self hl] at hw
        cases hw
        exact hv
      · rw [pk_un ha]
        rw [List.getElem?_set_ne (Ne.symm ha), ← z_at_get] at hw
        exact e3 a w hw
    · have h2 := Option.some.inj h2
      subst h2
      obtain ⟨cA', f', ty', e1, e2, e3⟩ := h
      cases e1
      refine ⟨cA, upd f j i, ty, rfl, h3, fun a w hlt hw => ?_⟩
      dsimp only at hw hlt
      unfold z_same1 at hw
      match q, hw with
      | [], hw => cases hw; exact ⟨_, rfl⟩
      | u :: q, hw =>
        dsimp only at hw
        split at hw
        · rename_i hb
          cases hw
          simp only [Bool.and_eq_true] at hb
          have u1 := Nat.eq_of_beq_eq_true hb.1
          have u2 := Nat.eq_of_beq_eq_true hb.2
          by_cases ha : a = j
          · subst ha
            rw [pk_us, show w = v from Prod.ext u1 u2]
            exact hv
          · rw [pk_un ha]
            exact e3 a w hlt rfl
        · cases hw
          exact ⟨_, rfl⟩
  · cases h2
theorem zk_iast {x y v u : zV} {t t2 : zC} {j : Nat} {r : List zV} {ls0 : zL} {S : zS} (ok : FieldType → Prop) (g : Int32 → Int32) (he : ze ρ env) (hc : z_cat S.1 x.2 = some t) (h6 : x.1 = 6) (h0 : t.1 = 1 ∨ t.1 = 2) (hok : ∃ w, z_at S.2.1 t.2.1 = some w ∧ ok (z_ty ft w)) (hy : z_kn env y = some j) (hI : z_isI v = true) (hg : ∀ ad i, zv ρ b ad v (.int i) → zv ρ b ad u (.int (g i))) (h2 : z_iast t j u = some t2)
    (hr : ∀ (H : Heap) (locs : List Loc) (cells slots : Nat) (ls : Array Slot) (st : List Value) (ws : va_W) (tys : List (ClassId × FieldType)) (q t0 o N : Nat) (cA : ClassId) (ty : FieldType) (f : Nat → Int32) (i x : Int32), va_P D cl ws H → va_D A ws → va_K D cl tys s → va_S A s.heap H locs → ws[q]? = some (o, .inl (cA, N, .inl f)) → tys[t0]? = some (cA, ty) → ok ty → vp_in i N →
      (∀ (H1 : Heap) (locs1 : List Loc), va_P D cl (ws.set q (o, .inl (cA, N, .inl (upd f i.toNatClampNeg (g x))))) H1 → va_D A (ws.set q (o, .inl (cA, N, .inl (upd f i.toNatClampNeg (g x))))) → va_S A s.heap H1 locs1 → W p l e R s m args below meth c H1 locs1 cells slots Q (F0 m n ls st)) → W p l e R s m args below meth c H locs cells slots Q (F0 m pc ls (.int x :: .int i :: .ref o :: st)))
    (kk : zgo p l e R s m args below meth c Q D cl A ft ρ b nL ad0 n (ls0, r, z_with S x.2 t2)) : zgo p l e R s m args below meth c Q D cl A ft ρ b nL ad0 pc (ls0, v :: y :: x :: r, S) := by
  intro ws tys H locs ls lv st hP hD hK hS hw had hl hlv hst
  match st, hst with
  | w3 :: w2 :: w1 :: st, hst =>
    obtain ⟨o, e0, rfl, h1, hz⟩ := zw_ref hw h6 hst.2.2.1 hc
    obtain ⟨cA, f, ty, rfl, h3, -, -⟩ := zc_ints h0 hz
    have e2 := zv_kn he hst.2.1 hy
    subst e2
    obtain ⟨i, rfl⟩ := zv_I hst.1 hI
    obtain ⟨w, hw1, hw2⟩ := hok
    have hty := zw_ty hw h3 hw1
    have hb : (Nat.blt j t.2.2.1 && Nat.blt t.2.2.1 z_31) = true := by
      unfold z_iast at h2
      split at h2
      · assumption
      · cases h2
    simp only [Bool.and_eq_true] at hb
    obtain ⟨i1, i2⟩ := z_in1 hb.1 hb.2
    refine hr _ _ _ _ _ _ ws tys _ _ o _ cA ty f (nI j) i hP hD hK hS h1 h3 (by rw [hty]; exact hw2) i1 (fun H1 locs1 hP1 hD1 hS1 => ?_)
    rw [i2] at hP1 hD1
    have hm := zw_same (e1 := .inl (cA, t.2.2.1, .inl (upd f j (g i)))) h1
    refine kk _ tys H1 locs1 ls lv st hP1 hD1 hK hS1 (zw_put hw h1 (zc_iast h0 h3 hz h2 (hg _ _ hst.1))) ?_ hl ?_ ?_
    · rw [hm]; exact had
    · rw [hm]; exact hlv
    · rw [hm]; exact hst.2.2.2
end ZH
