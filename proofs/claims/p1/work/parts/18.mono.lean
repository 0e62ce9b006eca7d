/-! WHAT A RUN MAKES ONLY GROWS -/
theorem z_ok_eq {k k2 : zK} {o o2 : zR} (h : z_ok k k2 o2 = o) (ho : o.1 ≠ 0) : o2 = o ∧ k.2.2.2.2.1 ≤ k2.2.2.2.2.1 ∧ k.2.2.2.2.2 ≤ k2.2.2.2.2.2 := by
  unfold z_ok at h
  split at h
  · rename_i hb
    simp only [z_le, Bool.and_eq_true] at hb
    exact ⟨h, Nat.le_of_ble_eq_true hb.1, Nat.le_of_ble_eq_true hb.2⟩
  · exact absurd (by rw [← h]; rfl) ho
theorem z_eqv_ok {x y : zV} (h : z_eqv x y = true) : x = y := by
  simp only [z_eqv, Bool.and_eq_true] at h
  exact Prod.ext (Nat.eq_of_beq_eq_true h.1) (Nat.eq_of_beq_eq_true h.2)
theorem z_eqvs_ok : ∀ {l m : List zV}, z_eqvs l m = true → l = m
  | [], [], _ => rfl
  | [], _ :: _, h => by cases h
  | _ :: _, [], h => by cases h
  | x :: r, y :: s, h => by
    simp only [z_eqvs, Bool.and_eq_true] at h
    rw [z_eqv_ok h.1, z_eqvs_ok h.2]
theorem z_eqc_ok {x y : zC} (h : z_eqc x y = true) : x = y := by
  simp only [z_eqc, Bool.and_eq_true] at h
  exact Prod.ext (Nat.eq_of_beq_eq_true h.1.1.1) (Prod.ext (Nat.eq_of_beq_eq_true h.1.1.2) (Prod.ext (Nat.eq_of_beq_eq_true h.1.2) (z_eqvs_ok h.2)))
theorem z_eqb_ok : ∀ {l m : List zC}, z_eqb l m = true → l = m
  | [], [], _ => rfl
  | [], _ :: _, h => by cases h
  | _ :: _, [], h => by cases h
  | x :: r, y :: s, h => by
    simp only [z_eqb, Bool.and_eq_true] at h
    rw [z_eqc_ok h.1, z_eqb_ok h.2]
theorem z_eqh_ok : ∀ {l m : List (List zC)}, z_eqh l m = true → l = m
  | [], [], _ => rfl
  | [], _ :: _, h => by cases h
  | _ :: _, [], h => by cases h
  | x :: r, y :: s, h => by
    simp only [z_eqh, Bool.and_eq_true] at h
    rw [z_eqb_ok h.1, z_eqh_ok h.2]
theorem z_eqn_ok : ∀ {l m : List Nat}, z_eqn l m = true → l = m
  | [], [], _ => rfl
  | [], _ :: _, h => by cases h
  | _ :: _, [], h => by cases h
  | x :: r, y :: s, h => by
    simp only [z_eqn, Bool.and_eq_true] at h
    rw [Nat.eq_of_beq_eq_true h.1, z_eqn_ok h.2]
theorem z_eql_ok : ∀ {l m : zL}, z_eql l m = true → l = m
  | [], [], _ => rfl
  | [], _ :: _, h => by cases h
  | _ :: _, [], h => by cases h
  | x :: r, y :: s, h => by
    simp only [z_eql, Bool.and_eq_true] at h
    rw [show x = y from Prod.ext (Nat.eq_of_beq_eq_true h.1.1) (z_eqv_ok h.1.2), z_eql_ok h.2]
theorem z_eqS_ok {x y : zS} (h : z_eqS x y = true) : x = y := by
  simp only [z_eqS, Bool.and_eq_true] at h
  exact Prod.ext (z_eqh_ok h.1.1.1) (Prod.ext (z_eqn_ok h.1.1.2) (Prod.ext (Nat.eq_of_beq_eq_true h.1.2) (Nat.eq_of_beq_eq_true h.2)))
theorem z_eqR_ok {x y : zR} (h : z_eqR x y = true) : x = y := by
  simp only [z_eqR, Bool.and_eq_true] at h
  exact Prod.ext (Nat.eq_of_beq_eq_true h.1.1.1.1) (Prod.ext (z_eqv_ok h.1.1.1.2) (Prod.ext (z_eql_ok h.1.1.2) (Prod.ext (z_eqvs_ok h.1.2) (z_eqS_ok h.2))))
/-- a run that ends well, or at its stop -/
def zGd (o : zR) : Prop := o.1 = 1 ∨ o.1 = 2 ∨ o.1 = 3 ∨ o.1 = 5
/-- a run's next step, when it ends well -/
theorem zx_step {mt : List zP} {G : zG} {f d : Nat} {me : zP} {cs : List zJ} {k : zK} {o : zR} (h : zx mt G f d me cs k = o) (ho : zGd o) : ∃ (f2 : Nat) (x : zJ) (r : List zJ), f = f2 + 1 ∧ cs = x :: r ∧ ∃ N, z_do G x k = N ∧
    ((N.1 = 1 ∧ zx mt G f2 d me r N.2.2.2 = o ∧ k.2.2.2.2.1 ≤ N.2.2.2.2.2.2.2.1 ∧ k.2.2.2.2.2 ≤ N.2.2.2.2.2.2.2.2) ∨
     (N.1 = 2 ∧ zx mt G f2 d me (z_drop me.1 N.2.1) N.2.2.2 = o ∧ k.2.2.2.2.1 ≤ N.2.2.2.2.2.2.2.1 ∧ k.2.2.2.2.2 ≤ N.2.2.2.2.2.2.2.2) ∨
     (N.1 = 8 ∧ zx mt G f2 d me (z_drop me.1 (z_sw me N.2.2.1.1 N.2.1)) N.2.2.2 = o ∧ k.2.2.2.2.1 ≤ N.2.2.2.2.2.2.2.1 ∧ k.2.2.2.2.2 ≤ N.2.2.2.2.2.2.2.2) ∨
     (N.1 = 3 ∧ o = (1, N.2.2.1, N.2.2.2) ∧ k.2.2.2.2.1 ≤ N.2.2.2.2.2.2.2.1 ∧ k.2.2.2.2.2 ≤ N.2.2.2.2.2.2.2.2) ∨
     (N.1 = 4 ∧ o = (2, N.2.2.1, N.2.2.2) ∧ k.2.2.2.2.1 ≤ N.2.2.2.2.2.2.2.1 ∧ k.2.2.2.2.2 ≤ N.2.2.2.2.2.2.2.2) ∨
     (N.1 = 5 ∧ 8 ≤ d ∧ o = (3, N.2.2.1, N.2.2.2) ∧ k.2.2.2.2.1 ≤ N.2.2.2.2.2.2.2.1 ∧ k.2.2.2.2.2 ≤ N.2.2.2.2.2.2.2.2) ∨
     (N.1 = 9 ∧ N.2.1 ≤ d ∧ zx mt G f2 d me r N.2.2.2 = o ∧ k.2.2.2.2.1 ≤ N.2.2.2.2.2.2.2.1 ∧ k.2.2.2.2.2 ≤ N.2.2.2.2.2.2.2.2) ∨
     (N.1 = 10 ∧ zx mt G f2 d me (z_drop me.1 N.2.1) N.2.2.2 = o ∧ zx mt G f2 d me r N.2.2.2 = o ∧ k.2.2.2.2.1 ≤ N.2.2.2.2.2.2.2.1 ∧ k.2.2.2.2.2 ≤ N.2.2.2.2.2.2.2.2) ∨
     (N.1 = 11 ∧ o = (5, (x.1, 0), N.2.2.2) ∧ k.2.2.2.2.1 ≤ N.2.2.2.2.2.2.2.1 ∧ k.2.2.2.2.2 ≤ N.2.2.2.2.2.2.2.2) ∨
     (N.1 = 7 ∧ ∃ d2 m2 o2, d = d2 + 1 ∧ z_at mt N.2.1 = some m2 ∧ zx mt G f2 d2 m2 m2.1 (N.2.2.2.1, [], z_in N.2.2.2.2.2) = o2 ∧
        ((o2.1 = 1 ∧ zx mt G f2 d me r (k.1, o2.2.1 :: N.2.2.2.2.1, z_grow N.2.2.2.2.2 o2.2.2.2.2) = o ∧ k.2.2.2.2.1 ≤ (z_grow N.2.2.2.2.2 o2.2.2.2.2).2.2.1 ∧ k.2.2.2.2.2 ≤ (z_grow N.2.2.2.2.2 o2.2.2.2.2).2.2.2) ∨
         (o2.1 = 2 ∧ zx mt G f2 d me r (k.1, N.2.2.2.2.1, z_grow N.2.2.2.2.2 o2.2.2.2.2) = o ∧ k.2.2.2.2.1 ≤ (z_grow N.2.2.2.2.2 o2.2.2.2.2).2.2.1 ∧ k.2.2.2.2.2 ≤ (z_grow N.2.2.2.2.2 o2.2.2.2.2).2.2.2) ∨
         (o2.1 = 3 ∧ x.2.1 = 3 ∧ ∃ q, z_handler me.2.1 x.1 o2.2.1.1 = some q ∧ zx mt G f2 d me (z_drop me.1 q) (k.1, [(7, 0)], z_grow N.2.2.2.2.2 o2.2.2.2.2) = o ∧ k.2.2.2.2.1 ≤ (z_grow N.2.2.2.2.2 o2.2.2.2.2).2.2.1 ∧ k.2.2.2.2.2 ≤ (z_grow N.2.2.2.2.2 o2.2.2.2.2).2.2.2) ∨
         (o2.1 = 3 ∧ x.2.1 = 3 ∧ me.2.1 = [] ∧ o = (3, o2.2.1, [], [], z_grow N.2.2.2.2.2 o2.2.2.2.2) ∧ k.2.2.2.2.1 ≤ (z_grow N.2.2.2.2.2 o2.2.2.2.2).2.2.1 ∧ k.2.2.2.2.2 ≤ (z_grow N.2.2.2.2.2 o2.2.2.2.2).2.2.2)))) := by
  have ho0 : o.1 ≠ 0 := by unfold zGd at ho; omega
  have ho4 : o.1 ≠ 4 := by unfold zGd at ho; omega
  match f, cs with
  | 0, _ => exact absurd (by rw [← h]; rfl) ho0
  | f + 1, [] => exact absurd (show o.1 = 0 by rw [← h]; rfl) ho0
  | f + 1, x :: r =>
    refine ⟨f, x, r, rfl, rfl, z_do G x k, rfl, ?_⟩
    have h2 : (match (generalizing := false) z_do G x k with
      | (1, _, _, k2) => z_ok k k2 (zx mt G f d me r k2)
      | (2, t, _, k2) => z_ok k k2 (zx mt G f d me (z_drop me.1 t) k2)
      | (3, _, v, k2) => z_ok k k2 (1, v, k2)
      | (4, _, v, k2) => z_ok k k2 (2, v, k2)
      | (5, _, v, k2) => if Nat.ble 8 d then z_ok k k2 (3, v, k2) else zr_bad k.2.2
      | (6, _, v, k2) => (4, v, k2)
      | (7, a, _, ls, st, S) => (match (generalizing := false) d, z_at mt a with
        | d2 + 1, some m2 => (match (generalizing := false) zx mt G f d2 m2 m2.1 (ls, [], z_in S) with
          | (1, v, _, _, S2) => z_ok k (k.1, v :: st, z_grow S S2) (zx mt G f d me r (k.1, v :: st, z_grow S S2))
          | (2, _, _, _, S2) => z_ok k (k.1, st, z_grow S S2) (zx mt G f d me r (k.1, st, z_grow S S2))
          | (3, v, _, _, S2) => if Nat.beq x.2.1 3 then (match (generalizing := false) z_handler me.2.1 x.1 v.1 with
            | some h => z_ok k (k.1, [(7, 0)], z_grow S S2) (zx mt G f d me (z_drop me.1 h) (k.1, [(7, 0)], z_grow S S2))
            | none => if Nat.beq (z_len me.2.1) 0 then z_ok k ([], [], z_grow S S2) (3, v, [], [], z_grow S S2) else zr_bad S) else zr_bad S
          | (4, v, _, _, S2) => (4, v, [], [], S2)
          | _ => zr_bad S)
        | _, _ => zr_bad S)
      | (8, n, v, k2) => z_ok k k2 (zx mt G f d me (z_drop me.1 (z_sw me v.1 n)) k2)
      | (9, n, _, k2) => if Nat.ble n d then z_ok k k2 (zx mt G f d me r k2) else zr_bad k.2.2
      | (10, t, _, k2) => z_ok k k2 (z_two (zx mt G f d me r k2) (zx mt G f d me (z_drop me.1 t) k2) k.2.2)
      | (11, _, _, k2) => z_ok k k2 (5, (x.1, 0), k2)
      | (_, _, _, k2) => zr_bad k2.2.2) = o := h
    generalize z_do G x k = N at h2 ⊢
    obtain ⟨t, a, v, ls, st, S⟩ := N
    match t, h2 with
    | 0, h2 => exact absurd (show o.1 = 0 from (congrArg (fun z => z.1) h2).symm) ho0
    | 1, h2 => obtain ⟨e1, e2, e3⟩ := z_ok_eq h2 ho0; exact Or.inl ⟨rfl, e1, e2, e3⟩
    | 2, h2 => obtain ⟨e1, e2, e3⟩ := z_ok_eq h2 ho0; exact Or.inr (Or.inl ⟨rfl, e1, e2, e3⟩)
    | 3, h2 => obtain ⟨e1, e2, e3⟩ := z_ok_eq h2 ho0; exact Or.inr (Or.inr (Or.inr (Or.inl ⟨rfl, e1.symm, e2, e3⟩)))
    | 4, h2 => obtain ⟨e1, e2, e3⟩ := z_ok_eq h2 ho0; exact Or.inr (Or.inr (Or.inr (Or.inr (Or.inl ⟨rfl, e1.symm, e2, e3⟩))))
    | 5, h2 =>
      have h2 : (if Nat.ble 8 d then z_ok k (ls, st, S) (3, v, (ls, st, S)) else zr_bad k.2.2) = o := h2
      by_cases hd : Nat.ble 8 d = true
      · rw [if_pos hd] at h2
        obtain ⟨e1, e2, e3⟩ := z_ok_eq h2 ho0
        exact Or.inr (Or.inr (Or.inr (Or.inr (Or.inr (Or.inl ⟨rfl, Nat.le_of_ble_eq_true hd, e1.symm, e2, e3⟩)))))
      · rw [if_neg hd] at h2
        exact absurd (show o.1 = 0 from (congrArg (fun z => z.1) h2).symm) ho0
    | 6, h2 => exact absurd (show o.1 = 4 from (congrArg (fun z => z.1) h2).symm) ho4
    | 7, h2 =>
      refine Or.inr (Or.inr (Or.inr (Or.inr (Or.inr (Or.inr (Or.inr (Or.inr (Or.inr ⟨rfl, ?_⟩))))))))
      have h2 : (match (generalizing := false) d, z_at mt a with
        | d2 + 1, some m2 => (match (generalizing := false) zx mt G f d2 m2 m2.1 (ls, [], z_in S) with
          | (1, v, _, _, S2) => z_ok k (k.1, v :: st, z_grow S S2) (zx mt G f d me r (k.1, v :: st, z_grow S S2))
          | (2, _, _, _, S2) => z_ok k (k.1, st, z_grow S S2) (zx mt G f d me r (k.1, st, z_grow S S2))
          | (3, v, _, _, S2) => if Nat.beq x.2.1 3 then (match (generalizing := false) z_handler me.2.1 x.1 v.1 with
            | some h => z_ok k (k.1, [(7, 0)], z_grow S S2) (zx mt G f d me (z_drop me.1 h) (k.1, [(7, 0)], z_grow S S2))
            | none => if Nat.beq (z_len me.2.1) 0 then z_ok k ([], [], z_grow S S2) (3, v, [], [], z_grow S S2) else zr_bad S) else zr_bad S
          | (4, v, _, _, S2) => (4, v, [], [], S2)
          | _ => zr_bad S)
        | _, _ => zr_bad S) = o := h2
      dsimp only
      cases hm : z_at mt a with
      | none =>
        rw [hm] at h2
        cases d <;> exact absurd (show o.1 = 0 from (congrArg (fun z => z.1) h2).symm) ho0
      | some m2 =>
      rw [hm] at h2
      clear h
      match d, h2 with
      | 0, h2 => exact absurd (show o.1 = 0 from (congrArg (fun z => z.1) h2).symm) ho0
      | d2 + 1, h2 =>
        refine ⟨d2, m2, _, rfl, rfl, rfl, ?_⟩
        have h2 : (match (generalizing := false) zx mt G f d2 m2 m2.1 (ls, [], z_in S) with
          | (1, v, _, _, S2) => z_ok k (k.1, v :: st, z_grow S S2) (zx mt G f (d2 + 1) me r (k.1, v :: st, z_grow S S2))
          | (2, _, _, _, S2) => z_ok k (k.1, st, z_grow S S2) (zx mt G f (d2 + 1) me r (k.1, st, z_grow S S2))
          | (3, v, _, _, S2) => if Nat.beq x.2.1 3 then (match (generalizing := false) z_handler me.2.1 x.1 v.1 with
            | some h => z_ok k (k.1, [(7, 0)], z_grow S S2) (zx mt G f (d2 + 1) me (z_drop me.1 h) (k.1, [(7, 0)], z_grow S S2))
            | none => if Nat.beq (z_len me.2.1) 0 then z_ok k ([], [], z_grow S S2) (3, v, [], [], z_grow S S2) else zr_bad S) else zr_bad S
          | (4, v, _, _, S2) => (4, v, [], [], S2)
          | _ => zr_bad S) = o := h2
        generalize zx mt G f d2 m2 m2.1 (ls, [], z_in S) = o2 at h2 ⊢
        obtain ⟨t2, v2, ls2, st2, S2⟩ := o2
        match t2, h2 with
        | 0, h2 => exact absurd (show o.1 = 0 from (congrArg (fun z => z.1) h2).symm) ho0
        | 1, h2 => obtain ⟨e1, e2, e3⟩ := z_ok_eq h2 ho0; exact Or.inl ⟨rfl, e1, e2, e3⟩
        | 2, h2 => obtain ⟨e1, e2, e3⟩ := z_ok_eq h2 ho0; exact Or.inr (Or.inl ⟨rfl, e1, e2, e3⟩)
        | 3, h2 =>
          have h2 : (if Nat.beq x.2.1 3 then (match (generalizing := false) z_handler me.2.1 x.1 v2.1 with
            | some h => z_ok k (k.1, [(7, 0)], z_grow S S2) (zx mt G f (d2 + 1) me (z_drop me.1 h) (k.1, [(7, 0)], z_grow S S2))
            | none => if Nat.beq (z_len me.2.1) 0 then z_ok k ([], [], z_grow S S2) (3, v2, [], [], z_grow S S2) else zr_bad S) else zr_bad S) = o := h2
          dsimp only
          by_cases hx3 : Nat.beq x.2.1 3 = true
          · rw [if_pos hx3] at h2
            have hx3 := Nat.eq_of_beq_eq_true hx3
            cases hh : z_handler me.2.1 x.1 v2.1 with
            | some q =>
              rw [hh] at h2
              obtain ⟨e1, e2, e3⟩ := z_ok_eq h2 ho0
              exact Or.inr (Or.inr (Or.inl ⟨rfl, hx3, q, rfl, e1, e2, e3⟩))
            | none =>
              rw [hh] at h2
              have h2 : (if Nat.beq (z_len me.2.1) 0 then z_ok k ([], [], z_grow S S2) (3, v2, [], [], z_grow S S2) else zr_bad S) = o := h2
              by_cases hz : Nat.beq (z_len me.2.1) 0 = true
              · rw [if_pos hz] at h2
                obtain ⟨e1, e2, e3⟩ := z_ok_eq h2 ho0
                have hz := Nat.eq_of_beq_eq_true hz
                rw [z_len_eq] at hz
                exact Or.inr (Or.inr (Or.inr ⟨rfl, hx3, List.eq_nil_of_length_eq_zero hz, e1.symm, e2, e3⟩))
              · rw [if_neg hz] at h2
                exact absurd (show o.1 = 0 from (congrArg (fun z => z.1) h2).symm) ho0
          · rw [if_neg hx3] at h2
            exact absurd (show o.1 = 0 from (congrArg (fun z => z.1) h2).symm) ho0
        | 4, h2 => exact absurd (show o.1 = 4 from (congrArg (fun z => z.1) h2).symm) ho4
        | _ + 5, h2 => exact absurd (show o.1 = 0 from (congrArg (fun z => z.1) h2).symm) ho0
    | 8, h2 => obtain ⟨e1, e2, e3⟩ := z_ok_eq h2 ho0; exact Or.inr (Or.inr (Or.inl ⟨rfl, e1, e2, e3⟩))
    | 9, h2 =>
      have h2 : (if Nat.ble a d then z_ok k (ls, st, S) (zx mt G f d me r (ls, st, S)) else zr_bad k.2.2) = o := h2
      by_cases hd : Nat.ble a d = true
      · rw [if_pos hd] at h2
        obtain ⟨e1, e2, e3⟩ := z_ok_eq h2 ho0
        exact Or.inr (Or.inr (Or.inr (Or.inr (Or.inr (Or.inr (Or.inl ⟨rfl, Nat.le_of_ble_eq_true hd, e1, e2, e3⟩))))))
      · rw [if_neg hd] at h2
        exact absurd (show o.1 = 0 from (congrArg (fun z => z.1) h2).symm) ho0
    | 10, h2 =>
      obtain ⟨e1, e2, e3⟩ := z_ok_eq h2 ho0
      unfold z_two at e1
      split at e1
      · rename_i hq
        have hq := z_eqR_ok hq
        exact Or.inr (Or.inr (Or.inr (Or.inr (Or.inr (Or.inr (Or.inr (Or.inl ⟨rfl, hq ▸ e1, e1, e2, e3⟩)))))))
      · exact absurd (show o.1 = 0 from (congrArg (fun z => z.1) e1).symm) ho0
    | 11, h2 => obtain ⟨e1, e2, e3⟩ := z_ok_eq h2 ho0; exact Or.inr (Or.inr (Or.inr (Or.inr (Or.inr (Or.inr (Or.inr (Or.inr (Or.inl ⟨rfl, e1.symm, e2, e3⟩))))))))
    | _ + 12, h2 => exact absurd (show o.1 = 0 from (congrArg (fun z => z.1) h2).symm) ho0
theorem zx_mono {mt : List zP} {G : zG} : ∀ (f : Nat) {d : Nat} {me : zP} {cs : List zJ} {k : zK} {o : zR}, zx mt G f d me cs k = o → zGd o → k.2.2.2.2.1 ≤ o.2.2.2.2.2.2.1 ∧ k.2.2.2.2.2 ≤ o.2.2.2.2.2.2.2 := by
  intro f
  induction f with
  | zero =>
    intro d me cs k o h ho
    exact absurd (show o.1 = 0 by rw [← h]; rfl) (by unfold zGd at ho; omega)
  | succ f ih =>
    intro d me cs k o h ho
    obtain ⟨f2, x, r, ef, -, N, -, hs⟩ := zx_step h ho
    cases ef
    rcases hs with ⟨-, h1, h2, h3⟩ | ⟨-, h1, h2, h3⟩ | ⟨-, h1, h2, h3⟩ | ⟨-, h1, h2, h3⟩ | ⟨-, h1, h2, h3⟩ | ⟨-, -, h1, h2, h3⟩ | ⟨-, -, h1, h2, h3⟩ | ⟨-, -, h1, h2, h3⟩ | ⟨-, h1, h2, h3⟩ | ⟨-, d2, m2, o2, -, -, -, hs⟩
    · have := ih h1 ho; exact ⟨Nat.le_trans h2 this.1, Nat.le_trans h3 this.2⟩
    · have := ih h1 ho; exact ⟨Nat.le_trans h2 this.1, Nat.le_trans h3 this.2⟩
    · have := ih h1 ho; exact ⟨Nat.le_trans h2 this.1, Nat.le_trans h3 this.2⟩
    · subst h1; exact ⟨h2, h3⟩
    · subst h1; exact ⟨h2, h3⟩
    · subst h1; exact ⟨h2, h3⟩
    · have := ih h1 ho; exact ⟨Nat.le_trans h2 this.1, Nat.le_trans h3 this.2⟩
    · have := ih h1 ho; exact ⟨Nat.le_trans h2 this.1, Nat.le_trans h3 this.2⟩
    · subst h1; exact ⟨h2, h3⟩
    · rcases hs with ⟨-, h1, h2, h3⟩ | ⟨-, h1, h2, h3⟩ | ⟨-, -, q, -, h1, h2, h3⟩ | ⟨-, -, -, h1, h2, h3⟩
      · have := ih h1 ho; exact ⟨Nat.le_trans h2 this.1, Nat.le_trans h3 this.2⟩
      · have := ih h1 ho; exact ⟨Nat.le_trans h2 this.1, Nat.le_trans h3 this.2⟩
      · have := ih h1 ho; exact ⟨Nat.le_trans h2 this.1, Nat.le_trans h3 this.2⟩
      · subst h1; exact ⟨h2, h3⟩
