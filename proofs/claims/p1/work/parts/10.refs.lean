/-! ROWS OF REFERENCES, SIZES, NEW THINGS -/
section ZHR
variable {p : Program} {l : Launch} {e : Env} {R : Room} {s : State} {m : MethodId} {args : Array Value} {below : List Frame} {meth : Method} {c : Code} {Q : State → Prop} {D : va_G} {cl : List vw_C} {A : Nat → Prop} {ft : List FieldType} {ρ : Nat → Int32} {b nL : Nat} {ad0 : List Nat} {env : List (Nat × Nat)}
variable {pc n : Nat}
theorem zc_refs {ad : List Nat} {tys : List (ClassId × FieldType)} {t : zC} {e0 : va_E} (h0 : t.1 = 6 ∨ t.1 = 8) (h : zc ρ b ad tys t e0) : ∃ (cA : ClassId) (f : Nat → Option Nat) (ty : FieldType), e0 = .inl (cA, t.2.2.1, .inr (.inr (.inr (.inr f)))) ∧ tys[t.2.1]? = some (cA, ty) ∧
    (∀ (j : Nat) (v : zV), z_ald t j = some v → zv ρ b ad v (va_rf (f j))) ∧ (t.1 = 8 → ∀ (j : Nat) (v : zV), j < t.2.2.1 → z_at t.2.2.2 0 = some v → zv ρ b ad v (va_rf (f j))) := by
  obtain ⟨k, x, N, q⟩ := t
  dsimp only at h0
  rcases h0 with rfl | rfl
  · obtain ⟨cA, f, ty, h1, h2, h3⟩ := h
    refine ⟨cA, f, ty, h1, h2, fun j v hv => ?_, fun z => absurd (show (6 : Nat) = 8 from z) (by decide)⟩
    unfold z_ald at hv
    split at hv
    · exact h3 j v hv
    · cases hv
  · obtain ⟨cA, f, ty, h1, h2, h3⟩ := h
    refine ⟨cA, f, ty, h1, h2, fun j v hv => ?_, fun _ j v hj hv => h3 j v hj hv⟩
    unfold z_ald at hv
    split at hv
    · rename_i hb
      simp only [Bool.and_eq_true] at hb
      exact h3 j v (Nat.le_of_ble_eq_true hb.1) hv
    · cases hv
/-- the row of a load of a reference -/
abbrev z_aaRow (p : Program) (l : Launch) (e : Env) (R : Room) (s : State) (m : MethodId) (args : Array Value) (below : List Frame) (meth : Method) (c : Code) (Q : State → Prop) (D : va_G) (cl : List vw_C) (pc n : Nat) (ok : FieldType → Prop) : Prop :=
  ∀ (H : Heap) (locs : List Loc) (cells slots : Nat) (ls : Array Slot) (st : List Value) (ws : va_W) (tys : List (ClassId × FieldType)) (q t0 o N : Nat) (cA : ClassId) (ty : FieldType) (f : Nat → Option Nat) (i : Int32), va_P D cl ws H → va_K D cl tys s → ws[q]? = some (o, .inl (cA, N, .inr (.inr (.inr (.inr f))))) → tys[t0]? = some (cA, ty) → ok ty → vp_in i N → W p l e R s m args below meth c H locs cells slots Q (F0 m n ls (va_rf (f i.toNatClampNeg) :: st)) → W p l e R s m args below meth c H locs cells slots Q (F0 m pc ls (.int i :: .ref o :: st))
theorem zk_aald {x y v : zV} {t : zC} {j : Nat} {r : List zV} {ls0 : zL} {S : zS} (ok : FieldType → Prop) (he : ze ρ env) (hc : z_cat S.1 x.2 = some t) (h6 : x.1 = 6) (h0 : t.1 = 6 ∨ t.1 = 8) (hok : ∃ w, z_at S.2.1 t.2.1 = some w ∧ ok (z_ty ft w)) (hy : z_kn env y = some j) (hv : z_ald t j = some v)
    (hr : z_aaRow p l e R s m args below meth c Q D cl pc n ok)
    (kk : zgo p l e R s m args below meth c Q D cl A ft ρ b nL ad0 n (ls0, v :: r, S)) : zgo p l e R s m args below meth c Q D cl A ft ρ b nL ad0 pc (ls0, y :: x :: r, S) := by
  intro ws tys H locs ls lv st hP hD hK hS hw had hl hlv hst
  match st, hst with
  | w2 :: w1 :: st, hst =>
    obtain ⟨o, e0, rfl, h1, h2⟩ := zw_ref hw h6 hst.2.1 hc
    obtain ⟨cA, f, ty, rfl, h3, h4, -⟩ := zc_refs h0 h2
    have e2 := zv_kn he hst.1 hy
    subst e2
    obtain ⟨w, hw1, hw2⟩ := hok
    have hty := zw_ty hw h3 hw1
    have hb : (Nat.blt j t.2.2.1 && Nat.blt t.2.2.1 z_31) = true := by
      unfold z_ald at hv
      split at hv
      · assumption
      · cases hv
    simp only [Bool.and_eq_true] at hb
    obtain ⟨i1, i2⟩ := z_in1 hb.1 hb.2
    refine hr _ _ _ _ _ _ ws tys _ _ o _ cA ty f (nI j) hP hK h1 h3 (by rw [hty]; exact hw2) i1 (kk ws tys H locs ls lv _ hP hD hK hS hw had hl hlv ⟨?_, hst.2.2⟩)
    rw [i2]
    exact h4 j v hv
theorem zk_aaldR {x y v : zV} {t : zC} {r : List zV} {ls0 : zL} {S : zS} (ok : FieldType → Prop) (he : ze ρ env) (hc : z_cat S.1 x.2 = some t) (h6 : x.1 = 6) (h0 : t.1 = 8) (hok : ∃ w, z_at S.2.1 t.2.1 = some w ∧ ok (z_ty ft w)) (hy : z_alike t env y = true) (hv : z_at t.2.2.2 0 = some v)
    (hr : z_aaRow p l e R s m args below meth c Q D cl pc n ok)
    (kk : zgo p l e R s m args below meth c Q D cl A ft ρ b nL ad0 n (ls0, v :: r, S)) : zgo p l e R s m args below meth c Q D cl A ft ρ b nL ad0 pc (ls0, y :: x :: r, S) := by
  intro ws tys H locs ls lv st hP hD hK hS hw had hl hlv hst
  match st, hst with
  | w2 :: w1 :: st, hst =>
    obtain ⟨o, e0, rfl, h1, h2⟩ := zw_ref hw h6 hst.2.1 hc
    obtain ⟨cA, f, ty, rfl, h3, -, h4⟩ := zc_refs (Or.inr h0) h2
    obtain ⟨w, hw1, hw2⟩ := hok
    have hty := zw_ty hw h3 hw1
    unfold z_alike at hy
    cases hq : z_rg env y with
    | none => rw [hq] at hy; simp at hy
    | some q =>
      rw [hq] at hy
      simp only [Bool.and_eq_true] at hy
      obtain ⟨i, rfl, hi⟩ := zv_rg he hst.1 hq
      obtain ⟨i1, i2⟩ := z_in2 hi hy.2.1.1 hy.2.1.2 hy.2.2
      exact hr _ _ _ _ _ _ ws tys _ _ o _ cA ty f i hP hK h1 h3 (by rw [hty]; exact hw2) i1 (kk ws tys H locs ls lv _ hP hD hK hS hw had hl hlv ⟨h4 h0 _ v i2 hv, hst.2.2⟩)
/-- a store of a reference or null: the row wants to know whose class it is -/
theorem zc_aast {ad : List Nat} {tys : List (ClassId × FieldType)} {t t2 : zC} {cA : ClassId} {f : Nat → Option Nat} {ty : FieldType} {j : Nat} {v : zV} {w : Option Nat} (h3 : tys[t.2.1]? = some (cA, ty)) (h : zc ρ b ad tys t (.inl (cA, t.2.2.1, .inr (.inr (.inr (.inr f)))))) (h2 : z_aast t j v = some t2) (hv : zv ρ b ad v (va_rf w)) : zc ρ b ad tys t2 (.inl (cA, t.2.2.1, .inr (.inr (.inr (.inr (va_up f j w)))))) := by
  obtain ⟨k, x, N, q⟩ := t
  dsimp only at h3 ⊢
  unfold z_aast at h2
  split at h2
  · match k, h, h2 with
    | 6, h, h2 =>
      have h2 := Option.some.inj h2
      subst h2
      obtain ⟨cA', f', ty', e1, e2, e3⟩ := h
      cases e1
      refine ⟨cA, va_up f j w, ty, rfl, h3, fun a u hu => ?_⟩
      dsimp only at hu
      rw [z_put_set, z_at_get] at hu
      by_cases ha : a = j
      · subst ha
        rw [show va_up f a w a = w from if_pos rfl]
        have hl : a < q.length := by
          have := (List.getElem?_eq_some_iff.mp hu).1
          rwa [List.length_set] at this
        rw [List.getElem?_set_self hl] at hu
        cases hu
        exact hv
      · rw [show va_up f j w a = f a from if_neg ha]
        rw [List.getElem?_set_ne (Ne.symm ha), ← z_at_get] at hu
        exact e3 a u hu
    | 0, _, h2 => cases h2
    | 1, _, h2 => cases h2
    | 2, _, h2 => cases h2
    | 3, _, h2 => cases h2
    | 4, _, h2 => cases h2
    | 5, _, h2 => cases h2
    | _ + 7, _, h2 => cases h2
  · cases h2
/-- a size -/
theorem zk_alen {x : zV} {t : zC} {r : List zV} {ls0 : zL} {S : zS} (hc : z_cat S.1 x.2 = some t) (h6 : x.1 = 6) (h0 : 0 < t.1)
    (hr : ∀ (H : Heap) (locs : List Loc) (cells slots : Nat) (ls : Array Slot) (st : List Value) (ws : va_W) (tys : List (ClassId × FieldType)) (q t0 o : Nat) (cA : ClassId) (a : vp_A) (ty : FieldType), va_P D cl ws H → va_K D cl tys s → ws[q]? = some (o, .inl (cA, a)) → tys[t0]? = some (cA, ty) → W p l e R s m args below meth c H locs cells slots Q (F0 m n ls (.int (nI a.1) :: st)) → W p l e R s m args below meth c H locs cells slots Q (F0 m pc ls (.ref o :: st)))
    (kk : zgo p l e R s m args below meth c Q D cl A ft ρ b nL ad0 n (ls0, (0, t.2.2.1) :: r, S)) : zgo p l e R s m args below meth c Q D cl A ft ρ b nL ad0 pc (ls0, x :: r, S) := by
  intro ws tys H locs ls lv st hP hD hK hS hw had hl hlv hst
  match st, hst with
  | w1 :: st, hst =>
    obtain ⟨o, e0, rfl, h1, h2⟩ := zw_ref hw h6 hst.1 hc
    have key : ∃ (cA : ClassId) (a : vp_A) (ty : FieldType), e0 = .inl (cA, a) ∧ a.1 = t.2.2.1 ∧ tys[t.2.1]? = some (cA, ty) := by
      obtain ⟨k, x, N, q⟩ := t
      match k, h0, h2 with
      | 1, _, h2 => obtain ⟨cA, f, ty, h3, h4, -⟩ := h2; exact ⟨cA, _, ty, h3, rfl, h4⟩
      | 2, _, h2 => obtain ⟨cA, f, ty, h3, h4, -⟩ := h2; exact ⟨cA, _, ty, h3, rfl, h4⟩
      | 4, _, h2 => obtain ⟨cA, f, ty, h3, h4, -⟩ := h2; exact ⟨cA, _, ty, h3, rfl, h4⟩
      | 5, _, h2 => obtain ⟨cA, f, ty, h3, h4, -⟩ := h2; exact ⟨cA, _, ty, h3, rfl, h4⟩
      | 6, _, h2 => obtain ⟨cA, f, ty, h3, h4, -⟩ := h2; exact ⟨cA, _, ty, h3, rfl, h4⟩
      | 8, _, h2 => obtain ⟨cA, f, ty, h3, h4, -⟩ := h2; exact ⟨cA, _, ty, h3, rfl, h4⟩
      | 0, h, _ => exact absurd h (Nat.lt_irrefl 0)
      | 3, _, h2 => exact h2.elim
      | 7, _, h2 => exact h2.elim
      | _ + 9, _, h2 => exact h2.elim
    obtain ⟨cA, a, ty, rfl, h3, h4⟩ := key
    refine hr _ _ _ _ _ _ ws tys _ _ o cA a ty hP hK h1 h4 ?_
    rw [h3]
    exact kk ws tys H locs ls lv _ hP hD hK hS hw had hl hlv ⟨rfl, hst.2⟩
/-- what stood in a world of fewer things -/
theorem zl_more {ad ad2 : List Nat} (hp : ∀ (k a : Nat), ad[k]? = some a → ad2[k]? = some a) {l1 : List zV} {l2 : List Value} (h : zl (zv ρ b ad) l1 l2) : zl (zv ρ b ad2) l1 l2 := zl_mono (fun _ _ q => zv_more q hp) h
theorem zl_moreL {ad ad2 : List Nat} (hp : ∀ (k a : Nat), ad[k]? = some a → ad2[k]? = some a) {l1 : zL} {l2 : List (Nat × Value)} (h : zl (fun x y => x.1 = y.1 ∧ zv ρ b ad x.2 y.2) l1 l2) : zl (fun x y => x.1 = y.1 ∧ zv ρ b ad2 x.2 y.2) l1 l2 := zl_mono (fun _ _ q => ⟨q.1, zv_more q.2 hp⟩) h
theorem z_pre (ws : va_W) (x : Nat × va_E) : ∀ (k a : Nat), (ws.map (fun q => q.1))[k]? = some a → ((ws ++ [x]).map (fun q => q.1))[k]? = some a := by
  intro k a h
  rw [List.map_append, List.getElem?_append_left (List.getElem?_eq_some_iff.mp h).1]
  exact h
theorem z_last_at (ws : va_W) (x : Nat × va_E) : ((ws ++ [x]).map (fun q => q.1))[ws.length]? = some x.1 := by
  rw [List.map_append, List.getElem?_append_right (by simp)]
  simp
/-- a new object -/
theorem zk_new {a N : Nat} {ds : List Nat} {k : zK}
    (hr : ∀ (H : Heap) (locs : List Loc) (cells slots : Nat) (ls : Array Slot) (st : List Value) (ws : va_W) (tys : List (ClassId × FieldType)) , va_P D cl ws H → va_D A ws → va_K D cl tys s → va_S A s.heap H locs → cells + 1 ≤ R.cells → slots + N ≤ R.slots →
      (∀ (q : Nat) (H1 : Heap) (fs : List Value), zl (zv ρ b []) (ds.map z_dflt) fs → va_P D cl (ws ++ [(q, .inr (a, fs))]) H1 → va_D A (ws ++ [(q, .inr (a, fs))]) → va_S A s.heap H1 locs → W p l e R s m args below meth c H1 locs (cells + 1) (slots + N) Q (F0 m n ls (.ref q :: st))) → W p l e R s m args below meth c H locs cells slots Q (F0 m pc ls st))
    (hR1 : k.2.2.2.2.1 + 1 ≤ R.cells) (hR2 : k.2.2.2.2.2 + N ≤ R.slots)
    (kk : zgo p l e R s m args below meth c Q D cl A ft ρ b nL ad0 n (k.1, (6, z_clen k.2.2.1) :: k.2.1, z_made k.2.2 (0, a, 0, ds.map z_dflt) N)) : zgo p l e R s m args below meth c Q D cl A ft ρ b nL ad0 pc k := by
  intro ws tys H locs ls lv st hP hD hK hS hw had hl hlv hst
  refine hr _ _ _ _ _ _ ws tys hP hD hK hS hR1 hR2 (fun q H1 fs hfs hP1 hD1 hS1 => ?_)
  have hz : zw ft ρ b (z_made k.2.2 (0, a, 0, ds.map z_dflt) N) (ws ++ [(q, .inr (a, fs))]) tys := by
    have := zw_add (a := q) (e := .inr (a, fs)) (tx := []) (tn := []) (n := k.2.2.2.2.1 + 1) (m := k.2.2.2.2.2 + N) (c := (0, a, 0, ds.map z_dflt)) hw rfl ⟨fs, rfl, zl_more (fun k a h => by cases h) hfs⟩
    rw [List.append_nil, List.append_nil] at this
    exact this
  refine kk _ tys H1 locs ls lv _ hP1 hD1 hK hS1 hz (fun i a h => z_pre ws _ _ _ (had i a h)) hl (zl_moreL (z_pre ws _) hlv) ⟨⟨q, ?_, rfl⟩, zl_more (z_pre ws _) hst⟩
  show ((ws ++ [(q, (.inr (a, fs) : va_E))]).map (fun q => q.1))[z_clen k.2.2.1]? = some q
  rw [z_clen_eq, ← hw.2.2.1]
  exact z_last_at ws _
end ZHR
