/-! WHAT THE ABSTRACT MACHINE'S THINGS MEAN -/
/-- two lists, place by place -/
def zl {α β : Type} (P : α → β → Prop) : List α → List β → Prop
  | [], [] => True
  | a :: r, b :: s => P a b ∧ zl P r s
  | _, _ => False
theorem zl_len {α β : Type} {P : α → β → Prop} : ∀ {l : List α} {m : List β}, zl P l m → m.length = l.length
  | [], [], _ => rfl
  | [], _ :: _, h => h.elim
  | _ :: _, [], h => h.elim
  | _ :: _, _ :: _, h => congrArg (· + 1) (zl_len h.2)
theorem zl_at {α β : Type} {P : α → β → Prop} : ∀ {l : List α} {m : List β} {k : Nat} {a : α}, zl P l m → z_at l k = some a → ∃ b, m[k]? = some b ∧ P a b
  | [], _, _, _, _, h => by cases h
  | _ :: _, [], _, _, h, _ => h.elim
  | x :: l, y :: m, 0, a, h, e => by
    cases e
    exact ⟨y, rfl, h.1⟩
  | x :: l, y :: m, k + 1, a, h, e => by
    obtain ⟨b, e1, e2⟩ := zl_at (k := k) h.2 e
    exact ⟨b, by simpa using e1, e2⟩
theorem zl_put {α β : Type} {P : α → β → Prop} {b : β} {a : α} (hp : P a b) : ∀ {l : List α} {m : List β} (k : Nat), zl P l m → zl P (z_put l k a) (m.set k b)
  | [], [], _, h => h
  | [], _ :: _, _, h => h.elim
  | _ :: _, [], _, h => h.elim
  | x :: l, y :: m, 0, h => ⟨hp, h.2⟩
  | x :: l, y :: m, k + 1, h => ⟨h.1, zl_put hp k h.2⟩
theorem zl_mono {α β : Type} {P Q : α → β → Prop} (hpq : ∀ a b, P a b → Q a b) : ∀ {l : List α} {m : List β}, zl P l m → zl Q l m
  | [], [], h => h
  | [], _ :: _, h => h.elim
  | _ :: _, [], h => h.elim
  | _ :: _, _ :: _, h => ⟨hpq _ _ h.1, zl_mono hpq h.2⟩
theorem zl_filter {α β : Type} {P : α → β → Prop} {f : α → Bool} {g : β → Bool} (hfg : ∀ a b, P a b → f a = g b) : ∀ {l : List α} {m : List β}, zl P l m → zl P (l.filter f) (m.filter g)
  | [], [], h => h
  | [], _ :: _, h => h.elim
  | _ :: _, [], h => h.elim
  | a :: l, b :: m, h => by
    have e := hfg a b h.1
    have ih := zl_filter hfg h.2
    cases hg : g b with
    | true => rw [hg] at e; rw [List.filter_cons_of_pos e, List.filter_cons_of_pos hg]; exact ⟨h.1, ih⟩
    | false => rw [hg] at e; rw [List.filter_cons_of_neg (by simp [e]), List.filter_cons_of_neg (by simp [hg])]; exact ih
/-- an Int32, so laid that the order is the ints' own -/
def zu (x : Int32) : Nat := (x.toInt + 2147483648).toNat
theorem zu_int (x : Int32) : (zu x : Int) = x.toInt + 2147483648 := by
  have h := Int32.le_toInt x
  unfold zu
  omega
theorem zu_lt (x y : Int32) : zu x < zu y ↔ x < y := by
  have h1 := zu_int x
  have h2 := zu_int y
  rw [Int32.lt_iff_toInt_lt]
  omega
theorem zu_le (x y : Int32) : zu x ≤ zu y ↔ x ≤ y := by
  have h1 := zu_int x
  have h2 := zu_int y
  rw [Int32.le_iff_toInt_le]
  omega
theorem zu_inj {x y : Int32} (h : zu x = zu y) : x = y := by
  have h1 := zu_int x
  have h2 := zu_int y
  exact Int32.toInt_inj.mp (by omega)
theorem zu_nI (n : Nat) : zu (nI n) = z_up n := by
  have h1 := zu_int (nI n)
  have h2 : (nI n).toInt = (n : Int).bmod 4294967296 := Int32.toInt_ofNat'
  rw [h2, Int.bmod_def] at h1
  unfold z_up z_31 z_32
  by_cases h : (n : Int) % ((4294967296 : Nat) : Int) < (((4294967296 : Nat) : Int) + 1) / 2
  · rw [if_pos h] at h1
    omega
  · rw [if_neg h] at h1
    omega
theorem z_up_lt (n : Nat) : z_up n < 4294967296 := Nat.mod_lt _ (by decide)
theorem zu_lt32 (x : Int32) : zu x < 4294967296 := by
  have h1 := zu_int x
  have h2 := Int32.toInt_lt x
  omega
/-- the int that lies so -/
theorem zu_back {x : Int32} {n : Nat} (h : zu x = n) : x = nI ((n + z_31) % z_32) := by
  apply zu_inj
  rw [zu_nI]
  have h2 := zu_lt32 x
  unfold z_up z_31 z_32
  omega
/-- the int of the script's that is meant by a number; what a value stands for: ρ the script's ints, b the script, ad the addresses of the world's things -/
def zv (ρ : Nat → Int32) (b : Nat) (ad : List Nat) (v : zV) (w : Value) : Prop := match v.1 with
  | 0 => w = .int (nI v.2)
  | 1 => w = .int (ρ v.2)
  | 2 => ∃ x, w = .int x
  | 3 => w = .long (lN v.2)
  | 4 => ∃ x, w = .long x
  | 5 => w = .null
  | 6 => ∃ a, ad[v.2]? = some a ∧ w = .ref a
  | 7 => ∃ a, w = .ref a
  | 8 => w = .ref b
  | 9 => ∃ x : Int32, w = .int x ∧ v.2 / z_32 ≤ zu x ∧ zu x ≤ v.2 % z_32
  | 10 => w = .long (ρ v.2).toInt64
  | _ => False
/-- the ranges hold -/
def ze (ρ : Nat → Int32) (env : List (Nat × Nat)) : Prop := (∀ (k : Nat) (q : Nat × Nat), z_at env k = some q → q.1 ≤ zu (ρ k) ∧ zu (ρ k) ≤ q.2) ∧ ρ 6 = ρ 0 &&& 31 ∧ ρ 8 = ρ 7 + 1
section ZV
variable {ρ : Nat → Int32} {b : Nat} {ad : List Nat} {env : List (Nat × Nat)}
theorem zv_I {v : zV} {w : Value} (h : zv ρ b ad v w) (hi : z_isI v = true) : ∃ x, w = .int x := by
  obtain ⟨t, n⟩ := v
  simp only [z_isI, Bool.or_eq_true] at hi
  have : t = 0 ∨ t = 1 ∨ t = 2 ∨ t = 9 := by
    rcases hi with hi | hi
    · have := Nat.le_of_ble_eq_true hi
      omega
    · have := Nat.eq_of_beq_eq_true hi
      omega
  rcases this with rfl | rfl | rfl | rfl
  · exact ⟨_, h⟩
  · exact ⟨_, h⟩
  · exact h
  · obtain ⟨x, h1, -⟩ := h
    exact ⟨x, h1⟩
theorem zv_L {v : zV} {w : Value} (h : zv ρ b ad v w) (hi : z_isL v = true) : ∃ x, w = .long x := by
  obtain ⟨t, n⟩ := v
  simp only [z_isL, Bool.or_eq_true] at hi
  rcases hi with (hi | hi) | hi
  · have := Nat.eq_of_beq_eq_true hi
    subst this
    exact ⟨_, h⟩
  · have := Nat.eq_of_beq_eq_true hi
    subst this
    exact h
  · have := Nat.eq_of_beq_eq_true hi
    subst this
    exact ⟨_, h⟩
/-- of one slot or of two -/
theorem zv_cat {v : zV} {w : Value} (h : zv ρ b ad v w) : (w.category == 2) = z_isL v := by
  obtain ⟨t, n⟩ := v
  match t, h with
  | 0, h => rw [show w = _ from h]; rfl
  | 1, h => rw [show w = _ from h]; rfl
  | 2, h => obtain ⟨x, rfl⟩ := h; rfl
  | 3, h => rw [show w = _ from h]; rfl
  | 4, h => obtain ⟨x, rfl⟩ := h; rfl
  | 5, h => rw [show w = _ from h]; rfl
  | 6, h => obtain ⟨x, -, rfl⟩ := h; rfl
  | 7, h => obtain ⟨x, rfl⟩ := h; rfl
  | 8, h => rw [show w = _ from h]; rfl
  | 9, h => obtain ⟨x, rfl, -⟩ := h; rfl
  | 10, h => rw [show w = _ from h]; rfl
  | _ + 11, h => exact h.elim
theorem zv_cat1 {v : zV} {w : Value} (h : zv ρ b ad v w) (hl : z_isL v = false) : w.category = 1 := by
  have e := zv_cat h
  rw [hl] at e
  rcases lv_cat w with h1 | h1
  · exact h1
  · rw [h1] at e
    exact absurd e (by decide)
/-- a known int -/
theorem zv_kn {v : zV} {w : Value} {n : Nat} (he : ze ρ env) (h : zv ρ b ad v w) (hk : z_kn env v = some n) : w = .int (nI n) := by
  obtain ⟨t, k⟩ := v
  match t, h, hk with
  | 0, h, hk => cases hk; exact h
  | 1, h, hk =>
    simp only [z_kn] at hk
    cases hq : z_at env k with
    | none => rw [hq] at hk; cases hk
    | some q =>
      rw [hq] at hk
      dsimp only at hk
      split at hk
      · rename_i hb
        have hk := Option.some.inj hk
        have e := Nat.eq_of_beq_eq_true hb
        have h2 := he.1 k q hq
        rw [← hk, show w = .int (ρ k) from h, zu_back (x := ρ k) (n := q.1) (by omega)]
      · cases hk
  | 2, _, hk => cases hk
  | 3, _, hk => cases hk
  | 4, _, hk => cases hk
  | 5, _, hk => cases hk
  | 6, _, hk => cases hk
  | 7, _, hk => cases hk
  | 8, _, hk => cases hk
  | 9, _, hk => cases hk
  | 10, _, hk => cases hk
  | _ + 11, h, _ => exact h.elim
/-- an int of a range -/
theorem zv_rg {v : zV} {w : Value} {q : Nat × Nat} (he : ze ρ env) (h : zv ρ b ad v w) (hk : z_rg env v = some q) : ∃ x, w = .int x ∧ q.1 ≤ zu x ∧ zu x ≤ q.2 := by
  obtain ⟨t, k⟩ := v
  match t, h, hk with
  | 0, h, hk => exact ⟨_, h, by rw [← Option.some.inj hk, zu_nI]; exact ⟨Nat.le_refl _, Nat.le_refl _⟩⟩
  | 1, h, hk => exact ⟨_, h, he.1 k q hk⟩
  | 9, h, hk => rw [← Option.some.inj hk]; exact h
  | 2, _, hk => cases hk
  | 3, _, hk => cases hk
  | 4, _, hk => cases hk
  | 5, _, hk => cases hk
  | 6, _, hk => cases hk
  | 7, _, hk => cases hk
  | 8, _, hk => cases hk
  | 10, _, hk => cases hk
  | _ + 11, h, _ => exact h.elim
/-- more things in the world -/
theorem zv_more {v : zV} {w : Value} {ad2 : List Nat} (h : zv ρ b ad v w) (hp : ∀ (k a : Nat), ad[k]? = some a → ad2[k]? = some a) : zv ρ b ad2 v w := by
  obtain ⟨t, n⟩ := v
  match t, h with
  | 0, h => exact h
  | 1, h => exact h
  | 2, h => exact h
  | 3, h => exact h
  | 4, h => exact h
  | 5, h => exact h
  | 6, h => obtain ⟨a, h1, h2⟩ := h; exact ⟨a, hp _ _ h1, h2⟩
  | 7, h => exact h
  | 8, h => exact h
  | 9, h => exact h
  | 10, h => exact h
  | _ + 11, h => exact h.elim
end ZV
