/-! THE WORLD'S THINGS BY SIXTEEN, AS ONE LIST -/
def z_flat (h : List (List zC)) : List zC := match h with
  | [] => []
  | b :: r => b ++ z_flat r
/-- every block but the last has sixteen -/
def z_sh (h : List (List zC)) : Prop := match h with
  | [] => True
  | b :: r => match r with
    | [] => b.length ≤ 16
    | _ :: _ => b.length = 16 ∧ z_sh r
theorem z_at_get {α : Type} : ∀ (l : List α) (k : Nat), z_at l k = l[k]?
  | [], _ => by simp [z_at]
  | _ :: _, 0 => rfl
  | _ :: l, k + 1 => by
    have := z_at_get l k
    simpa [z_at] using this
theorem z_put_set {α : Type} : ∀ (l : List α) (k : Nat) (a : α), z_put l k a = l.set k a
  | [], _, _ => rfl
  | _ :: _, 0, _ => rfl
  | _ :: l, k + 1, a => by
    have := z_put_set l k a
    simpa [z_put] using this
theorem z_len_eq {α : Type} : ∀ (l : List α), z_len l = l.length
  | [] => rfl
  | _ :: l => congrArg (· + 1) (z_len_eq l)
theorem z_drop_eq {α : Type} : ∀ (l : List α) (k : Nat), z_drop l k = l.drop k
  | l, 0 => by cases l <;> rfl
  | [], _ + 1 => rfl
  | _ :: l, k + 1 => by
    have := z_drop_eq l k
    simpa [z_drop] using this
theorem z_clen_eq : ∀ (h : List (List zC)), z_clen h = (z_flat h).length
  | [] => rfl
  | b :: r => by
    simp only [z_clen, z_flat, List.length_append, z_len_eq, z_clen_eq r]
theorem z_cat_eq : ∀ (h : List (List zC)) (k : Nat), z_sh h → z_cat h k = (z_flat h)[k]?
  | [], k, _ => by simp [z_cat, z_at, z_flat]
  | b :: [], k, hs => by
    have hl : b.length ≤ 16 := hs
    simp only [z_cat, z_flat, List.append_nil]
    by_cases hk : k < 16
    · rw [Nat.div_eq_of_lt hk, Nat.mod_eq_of_lt hk]
      exact z_at_get b k
    · have e : k / 16 = (k / 16 - 1) + 1 := by omega
      rw [e, List.getElem?_eq_none (by omega)]
      rfl
  | b :: b2 :: r, k, hs => by
    have hl : b.length = 16 := hs.1
    have ih := z_cat_eq (b2 :: r) (k - 16) hs.2
    by_cases hk : k < 16
    · simp only [z_cat, z_flat]
      rw [Nat.div_eq_of_lt hk, Nat.mod_eq_of_lt hk, List.getElem?_append_left (by omega)]
      exact z_at_get b k
    · have e1 : k / 16 = (k - 16) / 16 + 1 := by omega
      have e2 : k % 16 = (k - 16) % 16 := by omega
      rw [show z_flat (b :: b2 :: r) = b ++ z_flat (b2 :: r) from rfl, List.getElem?_append_right (by omega), hl, ← ih]
      simp only [z_cat]
      rw [e1, e2]
      rfl
theorem z_cadd_eq : ∀ (h : List (List zC)) (c : zC), z_sh h → z_flat (z_cadd h c) = z_flat h ++ [c] ∧ z_sh (z_cadd h c)
  | [], c, _ => ⟨rfl, by show [c].length ≤ 16; simp⟩
  | b :: [], c, hs => by
    have hl : b.length ≤ 16 := hs
    simp only [z_cadd, z_len_eq]
    by_cases hb : b.length < 16
    · rw [if_pos (show Nat.blt b.length 16 = true from Nat.ble_eq_true_of_le hb)]
      exact ⟨by simp [z_flat], by show (b ++ [c]).length ≤ 16; simp; omega⟩
    · rw [if_neg (show ¬ Nat.blt b.length 16 = true from fun q => hb (Nat.le_of_ble_eq_true q))]
      exact ⟨by simp [z_flat], by show b.length = 16 ∧ [c].length ≤ 16; exact ⟨by omega, by simp⟩⟩
  | b :: b2 :: r, c, hs => by
    obtain ⟨i1, i2⟩ := z_cadd_eq (b2 :: r) c hs.2
    refine ⟨?_, ?_⟩
    · show b ++ z_flat (z_cadd (b2 :: r) c) = (b ++ z_flat (b2 :: r)) ++ [c]
      rw [i1, List.append_assoc]
    · show z_sh (b :: z_cadd (b2 :: r) c)
      have hne : ∃ x y, z_cadd (b2 :: r) c = x :: y := by
        cases r with
        | nil =>
          simp only [z_cadd]
          split
          · exact ⟨_, _, rfl⟩
          · exact ⟨_, _, rfl⟩
        | cons x y => exact ⟨_, _, rfl⟩
      obtain ⟨x, y, e⟩ := hne
      rw [e] at i2 ⊢
      exact ⟨hs.1, i2⟩
theorem z_cput_eq : ∀ (h : List (List zC)) (k : Nat) (c : zC), z_sh h → z_flat (z_cput h k c) = (z_flat h).set k c ∧ z_sh (z_cput h k c)
  | [], k, c, _ => ⟨by simp [z_cput, z_at, z_flat], trivial⟩
  | b :: [], k, c, hs => by
    have hl : b.length ≤ 16 := hs
    simp only [z_cput]
    by_cases hk : k < 16
    · rw [Nat.div_eq_of_lt hk, Nat.mod_eq_of_lt hk]
      exact ⟨by simp [z_flat, z_at, z_put, z_put_set], by show (z_put b k c).length ≤ 16; rw [z_put_set, List.length_set]; exact hl⟩
    · have e : k / 16 = (k / 16 - 1) + 1 := by omega
      rw [e]
      refine ⟨?_, hs⟩
      show z_flat [b] = (z_flat [b]).set k c
      rw [List.set_eq_of_length_le (by simp [z_flat]; omega)]
  | b :: b2 :: r, k, c, hs => by
    have hl : b.length = 16 := hs.1
    obtain ⟨i1, i2⟩ := z_cput_eq (b2 :: r) (k - 16) c hs.2
    by_cases hk : k < 16
    · simp only [z_cput]
      rw [Nat.div_eq_of_lt hk, Nat.mod_eq_of_lt hk]
      refine ⟨?_, ?_⟩
      · show z_put b k c ++ z_flat (b2 :: r) = (b ++ z_flat (b2 :: r)).set k c
        rw [z_put_set, List.set_append_left _ _ (by omega)]
      · show (z_put b k c).length = 16 ∧ z_sh (b2 :: r)
        rw [z_put_set, List.length_set]
        exact hs
    · have e1 : k / 16 = (k - 16) / 16 + 1 := by omega
      have e2 : k % 16 = (k - 16) % 16 := by omega
      have e3 : z_cput (b :: b2 :: r) k c = b :: z_cput (b2 :: r) (k - 16) c := by
        simp only [z_cput]
        rw [e1, e2]
        show (match z_at (b2 :: r) ((k - 16) / 16) with
          | some b' => b :: z_put (b2 :: r) ((k - 16) / 16) (z_put b' ((k - 16) % 16) c)
          | none => b :: b2 :: r) = _
        cases z_at (b2 :: r) ((k - 16) / 16) <;> rfl
      rw [e3]
      refine ⟨?_, ?_⟩
      · show b ++ z_flat (z_cput (b2 :: r) (k - 16) c) = (b ++ z_flat (b2 :: r)).set k c
        rw [i1, List.set_append_right _ _ (by omega), hl]
      · have hne : ∃ x y, z_cput (b2 :: r) (k - 16) c = x :: y := by
          simp only [z_cput]
          split
          · cases hq : (k - 16) / 16 with
            | zero => exact ⟨_, _, rfl⟩
            | succ n => exact ⟨_, _, rfl⟩
          · exact ⟨_, _, rfl⟩
        obtain ⟨x, y, e⟩ := hne
        rw [e] at i2 ⊢
        exact ⟨hs.1, i2⟩
/-! WHAT THE WORLD MEANS -/
/-- a thing -/
def zc (ρ : Nat → Int32) (b : Nat) (ad : List Nat) (tys : List (ClassId × FieldType)) (c : zC) (e : va_E) : Prop := match c.1 with
  | 0 => ∃ fs, e = .inr (c.2.1, fs) ∧ zl (zv ρ b ad) c.2.2.2 fs
  | 1 => ∃ (cA : ClassId) (f : Nat → Int32) (ty : FieldType), e = .inl (cA, c.2.2.1, .inl f) ∧ tys[c.2.1]? = some (cA, ty) ∧ ∀ (j : Nat) (v : zV), z_at c.2.2.2 j = some v → zv ρ b ad v (.int (f j))
  | 2 => ∃ (cA : ClassId) (f : Nat → Int32) (ty : FieldType), e = .inl (cA, c.2.2.1, .inl f) ∧ tys[c.2.1]? = some (cA, ty) ∧ ∀ (j : Nat) (v : zV), j < c.2.2.1 → z_at c.2.2.2 0 = some v → zv ρ b ad v (.int (f j))
  | 4 => ∃ (cA : ClassId) (f : Nat → Int64) (ty : FieldType), e = .inl (cA, c.2.2.1, .inr (.inl f)) ∧ tys[c.2.1]? = some (cA, ty) ∧ ∀ (j : Nat) (v : zV), z_at c.2.2.2 j = some v → zv ρ b ad v (.long (f j))
  | 5 => ∃ (cA : ClassId) (f : Nat → Int64) (ty : FieldType), e = .inl (cA, c.2.2.1, .inr (.inl f)) ∧ tys[c.2.1]? = some (cA, ty) ∧ ∀ (j : Nat) (v : zV), j < c.2.2.1 → z_at c.2.2.2 0 = some v → zv ρ b ad v (.long (f j))
  | 6 => ∃ (cA : ClassId) (f : Nat → Option Nat) (ty : FieldType), e = .inl (cA, c.2.2.1, .inr (.inr (.inr (.inr f)))) ∧ tys[c.2.1]? = some (cA, ty) ∧ ∀ (j : Nat) (v : zV), z_at c.2.2.2 j = some v → zv ρ b ad v (va_rf (f j))
  | 8 => ∃ (cA : ClassId) (f : Nat → Option Nat) (ty : FieldType), e = .inl (cA, c.2.2.1, .inr (.inr (.inr (.inr f)))) ∧ tys[c.2.1]? = some (cA, ty) ∧ ∀ (j : Nat) (v : zV), j < c.2.2.1 → z_at c.2.2.2 0 = some v → zv ρ b ad v (va_rf (f j))
  | _ => False
/-- more things, more types -/
theorem zc_more {ρ : Nat → Int32} {b : Nat} {ad ad2 : List Nat} {tys tys2 : List (ClassId × FieldType)} {c : zC} {e : va_E} (h : zc ρ b ad tys c e) (hp : ∀ (k a : Nat), ad[k]? = some a → ad2[k]? = some a) (ht : ∀ (k : Nat) (t : ClassId × FieldType), tys[k]? = some t → tys2[k]? = some t) : zc ρ b ad2 tys2 c e := by
  obtain ⟨t, x, n, l⟩ := c
  match t, h with
  | 0, h => obtain ⟨fs, h1, h2⟩ := h; exact ⟨fs, h1, zl_mono (fun _ _ q => zv_more q hp) h2⟩
  | 1, h => obtain ⟨cA, f, ty, h1, h2, h3⟩ := h; exact ⟨cA, f, ty, h1, ht _ _ h2, fun j v q => zv_more (h3 j v q) hp⟩
  | 2, h => obtain ⟨cA, f, ty, h1, h2, h3⟩ := h; exact ⟨cA, f, ty, h1, ht _ _ h2, fun j v q r => zv_more (h3 j v q r) hp⟩
  | 4, h => obtain ⟨cA, f, ty, h1, h2, h3⟩ := h; exact ⟨cA, f, ty, h1, ht _ _ h2, fun j v q => zv_more (h3 j v q) hp⟩
  | 5, h => obtain ⟨cA, f, ty, h1, h2, h3⟩ := h; exact ⟨cA, f, ty, h1, ht _ _ h2, fun j v q r => zv_more (h3 j v q r) hp⟩
  | 6, h => obtain ⟨cA, f, ty, h1, h2, h3⟩ := h; exact ⟨cA, f, ty, h1, ht _ _ h2, fun j v q => zv_more (h3 j v q) hp⟩
  | 8, h => obtain ⟨cA, f, ty, h1, h2, h3⟩ := h; exact ⟨cA, f, ty, h1, ht _ _ h2, fun j v q r => zv_more (h3 j v q r) hp⟩
  | 3, h => exact h.elim
  | 7, h => exact h.elim
  | _ + 9, h => exact h.elim
/-- the element types by numbers: 0 int, 1 byte, 2 boolean, 3 long, then those of the list -/
def z_ty (ft : List FieldType) (n : Nat) : FieldType := match n with
  | 0 => .int
  | 1 => .byte
  | 2 => .boolean
  | 3 => .long
  | n + 4 => ft.getD n .int
/-- the world -/
def zw (ft : List FieldType) (ρ : Nat → Int32) (b : Nat) (S : zS) (ws : va_W) (tys : List (ClassId × FieldType)) : Prop :=
  z_sh S.1 ∧ tys.map (fun q => q.2) = S.2.1.map (z_ty ft) ∧ ws.length = (z_flat S.1).length ∧ ∀ (k : Nat) (c : zC), (z_flat S.1)[k]? = some c → ∃ q, ws[k]? = some q ∧ zc ρ b (ws.map (fun q => q.1)) tys c q.2
theorem zw_get {ft : List FieldType} {ρ : Nat → Int32} {b : Nat} {S : zS} {ws : va_W} {tys : List (ClassId × FieldType)} {k : Nat} {c : zC} (h : zw ft ρ b S ws tys) (hk : z_cat S.1 k = some c) : ∃ q, ws[k]? = some q ∧ zc ρ b (ws.map (fun q => q.1)) tys c q.2 := by
  obtain ⟨h1, h2, h3, h4⟩ := h
  rw [z_cat_eq _ _ h1] at hk
  exact h4 k c hk
/-- a thing is changed -/
theorem zw_put {ft : List FieldType} {ρ : Nat → Int32} {b : Nat} {S : zS} {ws : va_W} {tys : List (ClassId × FieldType)} {k a : Nat} {c : zC} {e e0 : va_E} (h : zw ft ρ b S ws tys) (hk : ws[k]? = some (a, e0)) (hc : zc ρ b (ws.map (fun q => q.1)) tys c e) : zw ft ρ b (z_with S k c) (ws.set k (a, e)) tys := by
  obtain ⟨h1, h2, h3, h4⟩ := h
  obtain ⟨i1, i2⟩ := z_cput_eq S.1 k c h1
  have hkl : k < ws.length := (List.getElem?_eq_some_iff.mp hk).1
  have hm : (ws.set k (a, e)).map (fun q => q.1) = ws.map (fun q => q.1) := by
    rw [List.map_set]
    refine List.ext_getElem? fun i => ?_
    by_cases hi : k = i
    · subst hi
      rw [List.getElem?_set_self (by simpa using hkl), List.getElem?_map, hk]
      rfl
    · rw [List.getElem?_set_ne hi]
  refine ⟨i2, h2, ?_, ?_⟩
  · show (ws.set k (a, e)).length = (z_flat (z_cput S.1 k c)).length
    rw [i1, List.length_set, List.length_set]
    exact h3
  · intro i c2 hi
    have hi2 : ((z_flat S.1).set k c)[i]? = some c2 := by rw [← i1]; exact hi
    rw [hm]
    by_cases e1 : k = i
    · subst e1
      rw [List.getElem?_set_self (by omega)] at hi2
      cases hi2
      exact ⟨(a, e), List.getElem?_set_self hkl, hc⟩
    · rw [List.getElem?_set_ne e1] at hi2
      obtain ⟨q, q1, q2⟩ := h4 i c2 hi2
      exact ⟨q, by rw [List.getElem?_set_ne e1]; exact q1, q2⟩
/-- a thing comes -/
theorem zw_add {ft : List FieldType} {ρ : Nat → Int32} {b : Nat} {S : zS} {ws : va_W} {tys tx : List (ClassId × FieldType)} {tn : List Nat} {a : Nat} {c : zC} {e : va_E} {n m : Nat} (h : zw ft ρ b S ws tys) (ht : tx.map (fun q => q.2) = tn.map (z_ty ft)) (hc : zc ρ b ((ws ++ [(a, e)]).map (fun q => q.1)) (tys ++ tx) c e) : zw ft ρ b (z_cadd S.1 c, S.2.1 ++ tn, n, m) (ws ++ [(a, e)]) (tys ++ tx) := by
  obtain ⟨h1, h2, h3, h4⟩ := h
  obtain ⟨i1, i2⟩ := z_cadd_eq S.1 c h1
  refine ⟨i2, ?_, ?_, ?_⟩
  · show (tys ++ tx).map (fun q => q.2) = (S.2.1 ++ tn).map (z_ty ft)
    rw [List.map_append, List.map_append, h2, ht]
  · show (ws ++ [(a, e)]).length = (z_flat (z_cadd S.1 c)).length
    rw [i1, List.length_append, List.length_append, h3]
    rfl
  · intro i c2 hi
    have hi2 : (z_flat S.1 ++ [c])[i]? = some c2 := by rw [← i1]; exact hi
    by_cases hl : i < (z_flat S.1).length
    · rw [List.getElem?_append_left hl] at hi2
      obtain ⟨q, q1, q2⟩ := h4 i c2 hi2
      refine ⟨q, by rw [List.getElem?_append_left (by omega)]; exact q1, zc_more q2 (fun k a' hk => ?_) (fun k t hk => ?_)⟩
      · rw [List.map_append, List.getElem?_append_left (List.getElem?_eq_some_iff.mp hk).1]
        exact hk
      · rw [List.getElem?_append_left (List.getElem?_eq_some_iff.mp hk).1]
        exact hk
    · have hl2 : i = (z_flat S.1).length := by
        have := (List.getElem?_eq_some_iff.mp hi2).1
        rw [List.length_append] at this
        have h5 : [c].length = 1 := rfl
        omega
      subst hl2
      rw [List.getElem?_concat_length] at hi2
      cases hi2
      exact ⟨(a, e), by rw [← h3, List.getElem?_concat_length], hc⟩
