/-! ROWS OF LONGS (out of the rows of ints, by program) -/
section ZHL
variable {p : Program} {l : Launch} {e : Env} {R : Room} {s : State} {m : MethodId} {args : Array Value} {below : List Frame} {meth : Method} {c : Code} {Q : State → Prop} {D : va_G} {cl : List vw_C} {A : Nat → Prop} {ft : List FieldType} {ρ : Nat → Int32} {b nL : Nat} {ad0 : List Nat} {env : List (Nat × Nat)}
variable {pc n : Nat}
/-- a row of longs -/
theorem zc_longs {ad : List Nat} {tys : List (ClassId × FieldType)} {t : zC} {e0 : va_E} (h0 : t.1 = 4 ∨ t.1 = 5) (h : zc ρ b ad tys t e0) : ∃ (cA : ClassId) (f : Nat → Int64) (ty : FieldType), e0 = .inl (cA, t.2.2.1, .inr (.inl f)) ∧ tys[t.2.1]? = some (cA, ty) ∧
    (∀ (j : Nat) (v : zV), z_ald t j = some v → zv ρ b ad v (.long (f j))) ∧ (t.1 = 5 → ∀ (j : Nat) (v : zV), j < t.2.2.1 → z_at t.2.2.2 0 = some v → zv ρ b ad v (.long (f j))) := by
  obtain ⟨k, x, N, q⟩ := t
  dsimp only at h0
  rcases h0 with rfl | rfl
  · obtain ⟨cA, f, ty, h1, h2, h3⟩ := h
    refine ⟨cA, f, ty, h1, h2, fun j v hv => ?_, fun z => absurd (show (4 : Nat) = 5 from z) (by decide)⟩
    unfold z_ald at hv
    split at hv
    · exact h3 j v hv
    · cases hv
  · obtain ⟨cA, f, ty, h1, h2, h3⟩ := h
    refine ⟨cA, f, ty, h1, h2, fun j v hv => ?_, fun _ j v hj hv => h3 j v hj hv⟩
    unfold z_ald at hv
    split at hv
    · rename_i hb
      simp only [Bool.and_eq_true] at hb
      exact h3 j v (Nat.le_of_ble_eq_true hb.1) hv
    · cases hv
/-- a load: the index is known -/
theorem zk_lald {x y v : zV} {t : zC} {j : Nat} {r : List zV} {ls0 : zL} {S : zS} (ok : FieldType → Prop) (he : ze ρ env) (hc : z_cat S.1 x.2 = some t) (h6 : x.1 = 6) (h0 : t.1 = 4 ∨ t.1 = 5) (hok : ∃ w, z_at S.2.1 t.2.1 = some w ∧ ok (z_ty ft w)) (hy : z_kn env y = some j) (hv : z_ald t j = some v)
    (hr : ∀ (H : Heap) (locs : List Loc) (cells slots : Nat) (ls : Array Slot) (st : List Value) (ws : va_W) (tys : List (ClassId × FieldType)) (q t0 o N : Nat) (cA : ClassId) (ty : FieldType) (f : Nat → Int64) (i : Int32), va_P D cl ws H → va_K D cl tys s → ws[q]? = some (o, .inl (cA, N, .inr (.inl f))) → tys[t0]? = some (cA, ty) → ok ty → vp_in i N → W p l e R s m args below meth c H locs cells slots Q (F0 m n ls (.long (f i.toNatClampNeg) :: st)) → W p l e R s m args below meth c H locs cells slots Q (F0 m pc ls (.int i :: .ref o :: st)))
    (kk : zgo p l e R s m args below meth c Q D cl A ft ρ b nL ad0 n (ls0, v :: r, S)) : zgo p l e R s m args below meth c Q D cl A ft ρ b nL ad0 pc (ls0, y :: x :: r, S) := by
  intro ws tys H locs ls lv st hP hD hK hS hw had hl hlv hst
  match st, hst with
  | w2 :: w1 :: st, hst =>
    obtain ⟨o, e0, rfl, h1, h2⟩ := zw_ref hw h6 hst.2.1 hc
    obtain ⟨cA, f, ty, rfl, h3, h4, -⟩ := zc_longs h0 h2
    have e2 := zv_kn he hst.1 hy
    subst e2
    obtain ⟨w, hw1, hw2⟩ := hok
    have hty : ty = z_ty ft w := by
      have := congrArg (fun z => z[t.2.1]?) hw.2.1
      dsimp only at this
      rw [List.getElem?_map, List.getElem?_map, h3, ← z_at_get, hw1] at this
      exact Option.some.inj this
    have hb : (Nat.blt j t.2.2.1 && Nat.blt t.2.2.1 z_31) = true := by
      unfold z_ald at hv
      split at hv
      · assumption
      · cases hv
    simp only [Bool.and_eq_true] at hb
    obtain ⟨i1, i2⟩ := z_in1 hb.1 hb.2
    refine hr _ _ _ _ _ _ ws tys _ _ o _ cA ty f (nI j) hP hK h1 h3 (by rw [hty]; exact hw2) i1 (kk ws tys H locs ls lv _ hP hD hK hS hw had hl hlv ⟨?_, hst.2.2⟩)
    rw [i2]
    exact h4 j v hv
/-- a load: the row is alike, the index of a range -/
theorem zk_laldR {x y v : zV} {t : zC} {r : List zV} {ls0 : zL} {S : zS} (ok : FieldType → Prop) (he : ze ρ env) (hc : z_cat S.1 x.2 = some t) (h6 : x.1 = 6) (h0 : t.1 = 5) (hok : ∃ w, z_at S.2.1 t.2.1 = some w ∧ ok (z_ty ft w)) (hy : z_alike t env y = true) (hv : z_at t.2.2.2 0 = some v)
    (hr : ∀ (H : Heap) (locs : List Loc) (cells slots : Nat) (ls : Array Slot) (st : List Value) (ws : va_W) (tys : List (ClassId × FieldType)) (q t0 o N : Nat) (cA : ClassId) (ty : FieldType) (f : Nat → Int64) (i : Int32), va_P D cl ws H → va_K D cl tys s → ws[q]? = some (o, .inl (cA, N, .inr (.inl f))) → tys[t0]? = some (cA, ty) → ok ty → vp_in i N → W p l e R s m args below meth c H locs cells slots Q (F0 m n ls (.long (f i.toNatClampNeg) :: st)) → W p l e R s m args below meth c H locs cells slots Q (F0 m pc ls (.int i :: .ref o :: st)))
    (kk : zgo p l e R s m args below meth c Q D cl A ft ρ b nL ad0 n (ls0, v :: r, S)) : zgo p l e R s m args below meth c Q D cl A ft ρ b nL ad0 pc (ls0, y :: x :: r, S) := by
  intro ws tys H locs ls lv st hP hD hK hS hw had hl hlv hst
  match st, hst with
  | w2 :: w1 :: st, hst =>
    obtain ⟨o, e0, rfl, h1, h2⟩ := zw_ref hw h6 hst.2.1 hc
    obtain ⟨cA, f, ty, rfl, h3, -, h4⟩ := zc_longs (Or.inr h0) h2
    obtain ⟨w, hw1, hw2⟩ := hok
    have hty := zw_ty hw h3 hw1
    unfold z_alike at hy
    cases hq : z_rg env y with
    | none => rw [hq] at hy; simp at hy
    | some q =>
      rw [hq] at hy
      simp only [Bool.and_eq_true] at hy
      obtain ⟨i, rfl, hi⟩ := zv_rg he hst.1 hq
      obtain ⟨i1, i2⟩ := z_in2 hi hy.2.1.1 hy.2.1.2 hy.2.2
      exact hr _ _ _ _ _ _ ws tys _ _ o _ cA ty f i hP hK h1 h3 (by rw [hty]; exact hw2) i1 (kk ws tys H locs ls lv _ hP hD hK hS hw had hl hlv ⟨h4 h0 _ v i2 hv, hst.2.2⟩)
/-- a store of a long -/
theorem zc_last {ad : List Nat} {tys : List (ClassId × FieldType)} {t t2 : zC} {cA : ClassId} {f : Nat → Int64} {ty : FieldType} {j : Nat} {v : zV} {i : Int64} (h0 : t.1 = 4 ∨ t.1 = 5) (h3 : tys[t.2.1]? = some (cA, ty)) (h : zc ρ b ad tys t (.inl (cA, t.2.2.1, .inr (.inl f)))) (h2 : z_last t j v = some t2) (hv : zv ρ b ad v (.long i)) : zc ρ b ad tys t2 (.inl (cA, t.2.2.1, .inr (.inl (vp_updL f j i)))) := by
  obtain ⟨k, x, N, q⟩ := t
  dsimp only at h0 h3 ⊢
  unfold z_last at h2
  split at h2
  · rcases h0 with rfl | rfl
    · have h2 := Option.some.inj h2
      subst h2
      obtain ⟨cA', f', ty', e1, e2, e3⟩ := h
      cases e1
      refine ⟨cA, vp_updL f j i, ty, rfl, h3, fun a w hw => ?_⟩
      dsimp only at hw
      rw [z_put_set, z_at_get] at hw
      by_cases ha : a = j
      · subst ha
        rw [pk_uLs]
        have hl : a < q.length := by
          have := (List.getElem?_eq_some_iff.mp hw).1
          rwa [List.length_set] at this
        rw [List.getElem?_set_self hl] at hw
        cases hw
        exact hv
      · rw [pk_uLn ha]
        rw [List.getElem?_set_ne (Ne.symm ha), ← z_at_get] at hw
        exact e3 a w hw
    · have h2 := Option.some.inj h2
      subst h2
      obtain ⟨cA', f', ty', e1, e2, e3⟩ := h
      cases e1
      refine ⟨cA, vp_updL f j i, ty, rfl, h3, fun a w hlt hw => ?_⟩
      dsimp only at hw hlt
      unfold z_same1 at hw
      match q, hw with
      | [], hw => cases hw; exact ⟨_, rfl⟩
      | u :: q, hw =>
        dsimp only at hw
        split at hw
        · rename_i hb
          cases hw
          simp only [Bool.and_eq_true] at hb
          have u1 := Nat.eq_of_beq_eq_true hb.1
          have u2 := Nat.eq_of_beq_eq_true hb.2
          by_cases ha : a = j
          · subst ha
            rw [pk_uLs, show w = v from Prod.ext u1 u2]
            exact hv
          · rw [pk_uLn ha]
            exact e3 a w hlt rfl
        · cases hw
          exact ⟨_, rfl⟩
  · cases h2
theorem zk_last {x y v u : zV} {t t2 : zC} {j : Nat} {r : List zV} {ls0 : zL} {S : zS} (ok : FieldType → Prop) (g : Int64 → Int64) (he : ze ρ env) (hc : z_cat S.1 x.2 = some t) (h6 : x.1 = 6) (h0 : t.1 = 4 ∨ t.1 = 5) (hok : ∃ w, z_at S.2.1 t.2.1 = some w ∧ ok (z_ty ft w)) (hy : z_kn env y = some j) (hI : z_isL v = true) (hg : ∀ ad i, zv ρ b ad v (.long i) → zv ρ b ad u (.long (g i))) (h2 : z_last t j u = some t2)
    (hr : ∀ (H : Heap) (locs : List Loc) (cells slots : Nat) (ls : Array Slot) (st : List Value) (ws : va_W) (tys : List (ClassId × FieldType)) (q t0 o N : Nat) (cA : ClassId) (ty : FieldType) (f : Nat → Int64) (i : Int32) (x : Int64), va_P D cl ws H → va_D A ws → va_K D cl tys s → va_S A s.heap H locs → ws[q]? = some (o, .inl (cA, N, .inr (.inl f))) → tys[t0]? = some (cA, ty) → ok ty → vp_in i N →
      (∀ (H1 : Heap) (locs1 : List Loc), va_P D cl (ws.set q (o, .inl (cA, N, .inr (.inl (vp_updL f i.toNatClampNeg (g x)))))) H1 → va_D A (ws.set q (o, .inl (cA, N, .inr (.inl (vp_updL f i.toNatClampNeg (g x)))))) → va_S A s.heap H1 locs1 → W p l e R s m args below meth c H1 locs1 cells slots Q (F0 m n ls st)) → W p l e R s m args below meth c H locs cells slots Q (F0 m pc ls (.long x :: .int i :: .ref o :: st)))
    (kk : zgo p l e R s m args below meth c Q D cl A ft ρ b nL ad0 n (ls0, r, z_with S x.2 t2)) : zgo p l e R s m args below meth c Q D cl A ft ρ b nL ad0 pc (ls0, v :: y :: x :: r, S) := by
  intro ws tys H locs ls lv st hP hD hK hS hw had hl hlv hst
  match st, hst with
  | w3 :: w2 :: w1 :: st, hst =>
    obtain ⟨o, e0, rfl, h1, hz⟩ := zw_ref hw h6 hst.2.2.1 hc
    obtain ⟨cA, f, ty, rfl, h3, -, -⟩ := zc_longs h0 hz
    have e2 := zv_kn he hst.2.1 hy
    subst e2
    obtain ⟨i, rfl⟩ := zv_L hst.1 hI
    obtain ⟨w, hw1, hw2⟩ := hok
    have hty := zw_ty hw h3 hw1
    have hb : (Nat.blt j t.2.2.1 && Nat.blt t.2.2.1 z_31) = true := by
      unfold z_last at h2
      split at h2
      · assumption
      · cases h2
    simp only [Bool.and_eq_true] at hb
    obtain ⟨i1, i2⟩ := z_in1 hb.1 hb.2
    refine hr _ _ _ _ _ _ ws tys _ _ o _ cA ty f (nI j) i hP hD hK hS h1 h3 (by rw [hty]; exact hw2) i1 (fun H1 locs1 hP1 hD1 hS1 => ?_)
    rw [i2] at hP1 hD1
    have hm := zw_same (e1 := .inl (cA, t.2.2.1, .inr (.inl (vp_updL f j (g i))))) h1
    refine kk _ tys H1 locs1 ls lv st hP1 hD1 hK hS1 (zw_put hw h1 (zc_last h0 h3 hz h2 (hg _ _ hst.1))) ?_ hl ?_ ?_
    · rw [hm]; exact had
    · rw [hm]; exact hlv
    · rw [hm]; exact hst.2.2.2
end ZHL
