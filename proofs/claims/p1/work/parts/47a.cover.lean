/-! THE SCRIPTS, CUT INTO CASES -/
def z_spl (env : List (Nat × Nat)) (k c : Nat) : Option (List (Nat × Nat) × List (Nat × Nat)) := match z_at env k with
  | some q => if Nat.blt 0 c then some (z_put env k (q.1, c - 1), z_put env k (c, q.2)) else none
  | none => none
/-- the leaves of a tree of cuts: (0, 0) a leaf, (k + 1, c) a cut at c of the place k -/
def z_leaves : Nat → List (Nat × Nat) → List (Nat × Nat) → Option (List (List (Nat × Nat)) × List (Nat × Nat))
  | 0, _, _ => none
  | _ + 1, [], _ => none
  | f + 1, (0, _) :: r, env => some ([env], r)
  | f + 1, (k + 1, c) :: r, env => match z_spl env k c with
    | none => none
    | some (e1, e2) => match z_leaves f r e1 with
      | none => none
      | some (l1, r1) => match z_leaves f r1 e2 with
        | none => none
        | some (l2, r2) => some (l1 ++ l2, r2)
theorem z_put_ze {ρ : Nat → Int32} {env : List (Nat × Nat)} {k : Nat} {q q' : Nat × Nat} (he : ze ρ env) (hk : z_at env k = some q) (h1 : q'.1 ≤ zu (ρ k)) (h2 : zu (ρ k) ≤ q'.2) : ze ρ (z_put env k q') := by
  refine ⟨fun j r hr => ?_, he.2⟩
  rw [z_put_set, z_at_get] at hr
  rw [z_at_get] at hk
  by_cases hj : k = j
  · subst hj
    rw [List.getElem?_set_self (List.getElem?_eq_some_iff.mp hk).1] at hr
    cases hr
    exact ⟨h1, h2⟩
  · rw [List.getElem?_set_ne hj] at hr
    exact he.1 j r (by rw [z_at_get]; exact hr)
theorem z_cov {ρ : Nat → Int32} : ∀ (f : Nat) (code env : List (Nat × Nat)) (ls : List (List (Nat × Nat))) (r : List (Nat × Nat)), z_leaves f code env = some (ls, r) → ze ρ env → ∃ e ∈ ls, ze ρ e
  | 0, _, _, _, _, h, _ => by unfold z_leaves at h; cases h
  | _ + 1, [], _, _, _, h, _ => by unfold z_leaves at h; cases h
  | f + 1, (0, _) :: r0, env, ls, r, h, he => by
    unfold z_leaves at h
    cases h
    exact ⟨env, List.mem_cons_self, he⟩
  | f + 1, (k + 1, c) :: r0, env, ls, r, h, he => by
    unfold z_leaves at h
    cases hs : z_spl env k c with
    | none => rw [hs] at h; cases h
    | some es =>
      obtain ⟨e1, e2⟩ := es
      rw [hs] at h
      dsimp only at h
      cases h1 : z_leaves f r0 e1 with
      | none => rw [h1] at h; cases h
      | some q1 =>
        obtain ⟨l1, r1⟩ := q1
        rw [h1] at h
        dsimp only at h
        cases h2 : z_leaves f r1 e2 with
        | none => rw [h2] at h; cases h
        | some q2 =>
          obtain ⟨l2, r2⟩ := q2
          rw [h2] at h
          cases h
          unfold z_spl at hs
          cases hk : z_at env k with
          | none => rw [hk] at hs; cases hs
          | some q =>
            rw [hk] at hs
            dsimp only at hs
            split at hs
            · rename_i hc
              have hc : 0 < c := Nat.le_of_ble_eq_true hc
              cases hs
              have hb := he.1 k q hk
              by_cases hx : zu (ρ k) < c
              · obtain ⟨e, g1, g2⟩ := z_cov f r0 _ l1 r1 h1 (z_put_ze he hk hb.1 (show zu (ρ k) ≤ c - 1 by omega))
                exact ⟨e, List.mem_append_left _ g1, g2⟩
              · obtain ⟨e, g1, g2⟩ := z_cov f r1 _ l2 r h2 (z_put_ze he hk (show c ≤ zu (ρ k) by omega) hb.2)
                exact ⟨e, List.mem_append_right _ g1, g2⟩
            · cases hs
def zleaf (env : List (Nat × Nat)) : Bool := match zx zmL2 (zGv env) 12000 40 zm_172 (z_drop zm_172.1 0) (zlK, [], zSK) with
  | (1, v, _, _, S) => z_eqv v (0, 1) && Nat.ble S.2.2.1 600002 && Nat.ble S.2.2.2 7302232
  | _ => false
theorem zleaf_ok {env : List (Nat × Nat)} (h : zleaf env = true) : ∃ o, zx zmL2 (zGv env) 12000 40 zm_172 (z_drop zm_172.1 0) (zlK, [], zSK) = o ∧ o.1 = 1 ∧ o.2.1 = (0, 1) ∧ o.2.2.2.2.2.2.1 ≤ 600002 ∧ o.2.2.2.2.2.2.2 ≤ 7302232 := by
  refine ⟨_, rfl, ?_⟩
  unfold zleaf at h
  generalize zx zmL2 (zGv env) 12000 40 zm_172 (z_drop zm_172.1 0) (zlK, [], zSK) = o at h ⊢
  obtain ⟨t, v, ls, st, S⟩ := o
  match t, h with
  | 1, h =>
    simp only [Bool.and_eq_true] at h
    exact ⟨rfl, z_eqv_ok h.1.1, Nat.le_of_ble_eq_true h.1.2, Nat.le_of_ble_eq_true h.2⟩
  | 0, h => cases h
  | _ + 2, h => cases h

