/-! NEW ROWS -/
theorem z_rep_at {v w : zV} : ∀ {n j : Nat}, z_at (z_rep v n) j = some w → w = v
  | 0, _, h => by cases h
  | n + 1, 0, h => by cases h; rfl
  | n + 1, j + 1, h => z_rep_at (n := n) (j := j) h
section ZHM
variable {p : Program} {l : Launch} {e : Env} {R : Room} {s : State} {m : MethodId} {args : Array Value} {below : List Frame} {meth : Method} {c : Code} {Q : State → Prop} {D : va_G} {cl : List vw_C} {A : Nat → Prop} {ft : List FieldType} {ρ : Nat → Int32} {b nL : Nat} {ad0 : List Nat} {env : List (Nat × Nat)}
variable {pc n : Nat}
/-- the row of an instruction that makes a row of N places, its size on the stack -/
abbrev z_mkRow (p : Program) (l : Launch) (e : Env) (R : Room) (s : State) (m : MethodId) (args : Array Value) (below : List Frame) (meth : Method) (c : Code) (Q : State → Prop) (D : va_G) (cl : List vw_C) (A : Nat → Prop) (pc n N : Nat) (a0 : vp_A) (ty : FieldType) : Prop :=
  ∀ (H : Heap) (locs : List Loc) (cells slots : Nat) (ls : Array Slot) (st : List Value) (ws : va_W) (tys : List (ClassId × FieldType)), va_P D cl ws H → va_D A ws → va_K D cl tys s → va_S A s.heap H locs → cells + 1 ≤ R.cells → slots + N ≤ R.slots →
    (∀ (q : Nat) (cA : ClassId) (H1 : Heap), va_K D cl (tys ++ [(cA, ty)]) s → va_P D cl (ws ++ [(q, .inl (cA, a0))]) H1 → va_D A (ws ++ [(q, .inl (cA, a0))]) → va_S A s.heap H1 locs → W p l e R s m args below meth c H1 locs (cells + 1) (slots + N) Q (F0 m n ls (.ref q :: st))) → W p l e R s m args below meth c H locs cells slots Q (F0 m pc ls (.int (nI N) :: st))
theorem zk_mk {y : zV} {N tn : Nat} {t : zC} {a0 : vp_A} {r : List zV} {ls0 : zL} {S : zS} (he : ze ρ env) (hy : z_kn env y = some N) (ht : ∀ (ad : List Nat) (tys : List (ClassId × FieldType)) (cA : ClassId), tys[z_len S.2.1]? = some (cA, z_ty ft tn) → zc ρ b ad tys t (.inl (cA, a0)))
    (hr : z_mkRow p l e R s m args below meth c Q D cl A pc n N a0 (z_ty ft tn)) (hR1 : S.2.2.1 + 1 ≤ R.cells) (hR2 : S.2.2.2 + N ≤ R.slots)
    (kk : zgo p l e R s m args below meth c Q D cl A ft ρ b nL ad0 n (ls0, (6, z_clen S.1) :: r, z_madeT S t tn N)) : zgo p l e R s m args below meth c Q D cl A ft ρ b nL ad0 pc (ls0, y :: r, S) := by
  intro ws tys H locs ls lv st hP hD hK hS hw had hl hlv hst
  match st, hst with
  | w :: st, hst =>
    have e1 := zv_kn he hst.1 hy
    subst e1
    refine hr _ _ _ _ _ _ ws tys hP hD hK hS hR1 hR2 (fun q cA H1 hK1 hP1 hD1 hS1 => ?_)
    have hlen : tys.length = z_len S.2.1 := by
      rw [z_len_eq]
      have := congrArg List.length hw.2.1
      rwa [List.length_map, List.length_map] at this
    have hz : zw ft ρ b (z_madeT S t tn N) (ws ++ [(q, .inl (cA, a0))]) (tys ++ [(cA, z_ty ft tn)]) :=
      zw_add (a := q) (e := .inl (cA, a0)) (tx := [(cA, z_ty ft tn)]) (tn := [tn]) (n := S.2.2.1 + 1) (m := S.2.2.2 + N) (c := t) hw rfl (ht _ _ cA (by rw [← hlen, List.getElem?_concat_length]))
    refine kk _ _ H1 locs ls lv _ hP1 hD1 hK1 hS1 hz (fun i a h => z_pre ws _ _ _ (had i a h)) hl (zl_moreL (z_pre ws _) hlv) ⟨⟨q, ?_, rfl⟩, zl_more (z_pre ws _) hst.2⟩
    show ((ws ++ [(q, (.inl (cA, a0) : va_E))]).map (fun q => q.1))[z_clen S.1]? = some q
    rw [z_clen_eq, ← hw.2.2.1]
    exact z_last_at ws _
/-- what a new row of ints holds -/
theorem z_row0 {N k tn : Nat} {ad : List Nat} {tys : List (ClassId × FieldType)} {cA : ClassId} (h : tys[k]? = some (cA, z_ty ft tn)) : zc ρ b ad tys (z_row 0 N k) (.inl (cA, (N, .inl (fun _ => 0)))) := by
  show zc ρ b ad tys (if Nat.ble N 12 then (1, k, N, z_rep (0, 0) N) else (2, k, N, [(0, 0)])) _
  split
  · refine ⟨cA, fun _ => 0, _, rfl, h, fun j v hv => ?_⟩
    rw [z_rep_at hv]
    exact congrArg Value.int nI_0.symm
  · refine ⟨cA, fun _ => 0, _, rfl, h, fun j v hj hv => ?_⟩
    cases hv
    exact congrArg Value.int nI_0.symm
theorem z_row1 {N k tn : Nat} {ad : List Nat} {tys : List (ClassId × FieldType)} {cA : ClassId} (h : tys[k]? = some (cA, z_ty ft tn)) : zc ρ b ad tys (z_row 1 N k) (.inl (cA, (N, .inr (.inl (fun _ => 0))))) := by
  show zc ρ b ad tys (if Nat.ble N 12 then (4, k, N, z_rep (3, 0) N) else (5, k, N, [(3, 0)])) _
  split
  · refine ⟨cA, fun _ => 0, _, rfl, h, fun j v hv => ?_⟩
    rw [z_rep_at hv]
    exact congrArg Value.long (show (0 : Int64) = lN 0 by decide +kernel)
  · refine ⟨cA, fun _ => 0, _, rfl, h, fun j v hj hv => ?_⟩
    cases hv
    exact congrArg Value.long (show (0 : Int64) = lN 0 by decide +kernel)
theorem z_rowA {N k tn : Nat} {ad : List Nat} {tys : List (ClassId × FieldType)} {cA : ClassId} (h : tys[k]? = some (cA, z_ty ft tn)) : zc ρ b ad tys (if Nat.ble N 100 then (6, k, N, z_rep (5, 0) N) else (8, k, N, [(5, 0)])) (.inl (cA, (N, .inr (.inr (.inr (.inr (fun _ => none))))))) := by
  split
  · refine ⟨cA, fun _ => none, _, rfl, h, fun j v hv => ?_⟩
    rw [z_rep_at hv]
    exact rfl
  · refine ⟨cA, fun _ => none, _, rfl, h, fun j v hj hv => ?_⟩
    cases hv
    exact rfl
/-- a store of a reference: null, or an object of a class of ours -/
theorem zk_aast {x y v : zV} {t t2 : zC} {j : Nat} {r : List zV} {ls0 : zL} {S : zS} (ok : FieldType → Option Nat → Prop) (he : ze ρ env) (hc : z_cat S.1 x.2 = some t) (h6 : x.1 = 6) (h0 : t.1 = 6) (hv : v.1 = 5 ∨ (v.1 = 6 ∧ ∃ u, z_cat S.1 v.2 = some u ∧ u.1 = 0 ∧ ∃ w, z_at S.2.1 t.2.1 = some w ∧ ok (z_ty ft w) (some u.2.1))) (hn : v.1 = 5 → ∃ w, z_at S.2.1 t.2.1 = some w ∧ ok (z_ty ft w) none) (hy : z_kn env y = some j) (h2 : z_aast t j v = some t2)
    (hr : ∀ (H : Heap) (locs : List Loc) (cells slots : Nat) (ls : Array Slot) (st : List Value) (ws : va_W) (tys : List (ClassId × FieldType)) (q t0 o N : Nat) (cA : ClassId) (ty : FieldType) (f : Nat → Option Nat) (i : Int32) (w : Option Nat) (k : Option Nat), va_P D cl ws H → va_D A ws → va_K D cl tys s → va_S A s.heap H locs → ws[q]? = some (o, .inl (cA, N, .inr (.inr (.inr (.inr f))))) → tys[t0]? = some (cA, ty) → ok ty k → (match k, w with
        | none, none => True
        | some ci, some a => ∃ (qk : Nat) (vs : List Value), ws[qk]? = some (a, .inr (ci, vs))
        | _, _ => False) → vp_in i N →
      (∀ (H1 : Heap) (locs1 : List Loc), va_P D cl (ws.set q (o, .inl (cA, N, .inr (.inr (.inr (.inr (va_up f i.toNatClampNeg w))))))) H1 → va_D A (ws.set q (o, .inl (cA, N, .inr (.inr (.inr (.inr (va_up f i.toNatClampNeg w))))))) → va_S A s.heap H1 locs1 → W p l e R s m args below meth c H1 locs1 cells slots Q (F0 m n ls st)) → W p l e R s m args below meth c H locs cells slots Q (F0 m pc ls (va_rf w :: .int i :: .ref o :: st)))
    (kk : zgo p l e R s m args below meth c Q D cl A ft ρ b nL ad0 n (ls0, r, z_with S x.2 t2)) : zgo p l e R s m args below meth c Q D cl A ft ρ b nL ad0 pc (ls0, v :: y :: x :: r, S) := by
  intro ws tys H locs ls lv st hP hD hK hS hw had hl hlv hst
  match st, hst with
  | w3 :: w2 :: w1 :: st, hst =>
    obtain ⟨o, e0, rfl, h1, hz⟩ := zw_ref hw h6 hst.2.2.1 hc
    obtain ⟨cA, f, ty, rfl, h3, -, -⟩ := zc_refs (Or.inl h0) hz
    have e2 := zv_kn he hst.2.1 hy
    subst e2
    have hb : (Nat.blt j t.2.2.1 && Nat.blt t.2.2.1 z_31) = true := by
      unfold z_aast at h2
      split at h2
      · assumption
      · cases h2
    simp only [Bool.and_eq_true] at hb
    obtain ⟨i1, i2⟩ := z_in1 hb.1 hb.2
    have key : ∃ (w k : Option Nat), w3 = va_rf w ∧ ok ty k ∧ (match k, w with
        | none, none => True
        | some ci, some a => ∃ (qk : Nat) (vs : List Value), ws[qk]? = some (a, .inr (ci, vs))
        | _, _ => False) := by
      rcases hv with hv | ⟨hv, u, u1, u2, w, u3, u4⟩
      · obtain ⟨w, g1, g2⟩ := hn hv
        refine ⟨none, none, ?_, by rw [zw_ty hw h3 g1]; exact g2, trivial⟩
        obtain ⟨t5, k5⟩ := v
        dsimp only at hv
        subst hv
        exact hst.1
      · obtain ⟨a, e1, g1, g2, g3⟩ := zw_ref hw hv hst.1 u1
        obtain ⟨fs, rfl, -⟩ := zc_obj u2 g3
        exact ⟨some a, some u.2.1, g1, by rw [zw_ty hw h3 u3]; exact u4, _, fs, g2⟩
    obtain ⟨w, k, rfl, g2, g3⟩ := key
    refine hr _ _ _ _ _ _ ws tys _ _ o _ cA ty f (nI j) w k hP hD hK hS h1 h3 g2 g3 i1 (fun H1 locs1 hP1 hD1 hS1 => ?_)
    rw [i2] at hP1 hD1
    have hm := zw_same (e1 := .inl (cA, t.2.2.1, .inr (.inr (.inr (.inr (va_up f j w)))))) h1
    refine kk _ tys H1 locs1 ls lv st hP1 hD1 hK hS1 (zw_put hw h1 (zc_aast h3 hz h2 hst.1)) ?_ hl ?_ ?_
    · rw [hm]; exact had
    · rw [hm]; exact hlv
    · rw [hm]; exact hst.2.2.2
/-- null or not -/
theorem zk_null {x : zV} {t : Nat} {r : List zV} {ls0 : zL} {S : zS} (h5 : x.1 = 5)
    (hr : ∀ (H : Heap) (locs : List Loc) (cells slots : Nat) (ls : Array Slot) (st : List Value), W p l e R s m args below meth c H locs cells slots Q (F0 m t ls st) → W p l e R s m args below meth c H locs cells slots Q (F0 m pc ls (.null :: st)))
    (kk : zgo p l e R s m args below meth c Q D cl A ft ρ b nL ad0 t (ls0, r, S)) : zgo p l e R s m args below meth c Q D cl A ft ρ b nL ad0 pc (ls0, x :: r, S) := by
  intro ws tys H locs ls lv st hP hD hK hS hw had hl hlv hst
  match st, hst with
  | w1 :: st, hst =>
    obtain ⟨t5, k5⟩ := x
    dsimp only at h5
    subst h5
    have e1 : w1 = .null := hst.1
    subst e1
    exact hr _ _ _ _ _ _ (kk ws tys H locs ls lv st hP hD hK hS hw had hl hlv hst.2)
theorem zk_nonnull {x : zV} {t : Nat} {r : List zV} {ls0 : zL} {S : zS} (h6 : x.1 = 6)
    (hr : ∀ (H : Heap) (locs : List Loc) (cells slots : Nat) (ls : Array Slot) (st : List Value) (a : Nat), W p l e R s m args below meth c H locs cells slots Q (F0 m t ls st) → W p l e R s m args below meth c H locs cells slots Q (F0 m pc ls (.ref a :: st)))
    (kk : zgo p l e R s m args below meth c Q D cl A ft ρ b nL ad0 t (ls0, r, S)) : zgo p l e R s m args below meth c Q D cl A ft ρ b nL ad0 pc (ls0, x :: r, S) := by
  intro ws tys H locs ls lv st hP hD hK hS hw had hl hlv hst
  match st, hst with
  | w1 :: st, hst =>
    obtain ⟨t5, k5⟩ := x
    dsimp only at h6
    subst h6
    obtain ⟨a, -, e1⟩ := hst.1
    subst e1
    exact hr _ _ _ _ _ _ a (kk ws tys H locs ls lv st hP hD hK hS hw had hl hlv hst.2)
end ZHM
