/-! THE ABSTRACT ARITHMETIC -/
theorem zu_eq {x : Int32} {n : Nat} (h : zu x = z_up n) : x = nI n := zu_inj (by rw [h, zu_nI])
theorem nI_m (n : Nat) : nI (n % z_32) = nI n := by
  apply zu_inj
  rw [zu_nI, zu_nI]
  unfold z_up z_31 z_32
  omega
theorem nI_32 (a n : Nat) : nI (a + n * z_32) = nI a := by
  apply zu_inj
  rw [zu_nI, zu_nI]
  unfold z_up z_31 z_32
  omega
theorem z_add_ok (a b : Nat) : nI a + nI b = nI (z_add a b) := by
  unfold z_add
  rw [nI_m, nI_add]
theorem z_sub_ok (a b : Nat) : nI a - nI b = nI (z_sub a b) := by
  have h1 : nI (z_sub a b) + nI b = nI a := by
    unfold z_sub
    rw [nI_m, nI_add]
    apply zu_inj
    rw [zu_nI, zu_nI]
    unfold z_up z_31 z_32
    omega
  rw [← h1, Int32.add_sub_cancel]
theorem z_mul_ok (a b : Nat) : nI a * nI b = nI (z_mul a b) := by
  unfold z_mul
  rw [nI_m, pk_mul]
theorem lN_64 (a n : Nat) : lN (a + n * z_64) = lN a := by
  show Int64.ofNat _ = Int64.ofNat _
  rw [← Int64.toInt_inj, Int64.toInt_ofNat', Int64.toInt_ofNat']
  show ((a + n * 18446744073709551616 : Nat) : Int).bmod 18446744073709551616 = (a : Int).bmod 18446744073709551616
  rw [Int.natCast_add, Int.natCast_mul]
  exact Int.add_mul_bmod_self_right ..
theorem z_lsub_ok (a b : Nat) : lN a - lN b = lN (z_lsub a b) := by
  have h1 : lN (z_lsub a b) + lN b = lN a := by
    unfold z_lsub
    rw [lN_add]
    have e : a + (z_64 - b % z_64) + b = a + (b / z_64 + 1) * z_64 := by
      unfold z_64
      omega
    rw [e, lN_64]
  rw [← h1, Int64.add_sub_cancel]
section ZA
variable {ρ : Nat → Int32} {b : Nat} {ad : List Nat} {env : List (Nat × Nat)}
theorem zv_some {x : Int32} : zv ρ b ad (2, 0) (.int x) := ⟨x, rfl⟩
theorem z_i2_ok {f : Nat → Nat → Nat} {op : Int32 → Int32 → Int32} (hf : ∀ m n, op (nI m) (nI n) = nI (f m n)) {x y : zV} {p q : Int32} (he : ze ρ env) (hx : zv ρ b ad x (.int p)) (hy : zv ρ b ad y (.int q)) : zv ρ b ad (z_i2 env f x y) (.int (op p q)) := by
  unfold z_i2
  cases h1 : z_kn env x with
  | none => exact zv_some
  | some m =>
    cases h2 : z_kn env y with
    | none => exact zv_some
    | some n =>
      have e1 := zv_kn he hx h1
      have e2 := zv_kn he hy h2
      cases e1
      cases e2
      show Value.int (op (nI m) (nI n)) = .int (nI (f m n))
      rw [hf]
theorem z_addR_ok {x y : zV} {p q : Int32} (he : ze ρ env) (hx : zv ρ b ad x (.int p)) (hy : zv ρ b ad y (.int q)) : zv ρ b ad (z_addR env x y) (.int (p + q)) := by
  have key : zv ρ b ad (if z_is7 x y then (1, 8) else match z_rg env x, z_rg env y with
    | some p, some q => if Nat.ble z_31 (p.1 + q.1) && Nat.blt (p.2 + q.2) (z_31 + z_32) then ((9, (p.1 + q.1 - z_31) * z_32 + (p.2 + q.2 - z_31)) : zV) else (2, 0)
    | _, _ => (2, 0)) (.int (p + q)) := by
    by_cases h7 : z_is7 x y = true
    · rw [if_pos h7]
      simp only [z_is7, Bool.and_eq_true] at h7
      obtain ⟨x1, x2⟩ := x
      obtain ⟨y1, y2⟩ := y
      have g1 := Nat.eq_of_beq_eq_true h7.1.1.1
      have g2 := Nat.eq_of_beq_eq_true h7.1.1.2
      have g3 := Nat.eq_of_beq_eq_true h7.1.2
      have g4 := Nat.eq_of_beq_eq_true h7.2
      dsimp only at g1 g2 g3 g4
      subst g1 g2 g3 g4
      have e1 : Value.int p = .int (ρ 7) := hx
      have e2 : Value.int q = .int (nI 1) := hy
      cases e1
      cases e2
      show Value.int (ρ 7 + nI 1) = .int (ρ 8)
      rw [he.2.2]
      rfl
    rw [if_neg h7]
    cases h1 : z_rg env x with
    | none => exact zv_some
    | some u =>
      cases h2 : z_rg env y with
      | none => exact zv_some
      | some w =>
        obtain ⟨p', e1, a1, a2⟩ := zv_rg he hx h1
        obtain ⟨q', e2, b1, b2⟩ := zv_rg he hy h2
        cases e1
        cases e2
        dsimp only
        split
        · rename_i hb
          simp only [Bool.and_eq_true] at hb
          have c1 := Nat.le_of_ble_eq_true hb.1
          have c2 : u.2 + w.2 < z_31 + z_32 := Nat.le_of_ble_eq_true hb.2
          unfold z_31 at c1
          unfold z_31 z_32 at c2
          have d1 := zu_int p
          have d2 := zu_int q
          have d3 : (p + q).toInt = p.toInt + q.toInt := by
            rw [Int32.toInt_add]
            have g1 := Int32.toInt_lt p
            have g2 := Int32.toInt_lt q
            apply Int.bmod_eq_of_le <;> omega
          have d4 := zu_int (p + q)
          refine ⟨p + q, rfl, ?_, ?_⟩
          · show ((u.1 + w.1 - z_31) * z_32 + (u.2 + w.2 - z_31)) / z_32 ≤ zu (p + q)
            unfold z_31 z_32
            omega
          · show zu (p + q) ≤ ((u.1 + w.1 - z_31) * z_32 + (u.2 + w.2 - z_31)) % z_32
            unfold z_31 z_32
            omega
        · exact zv_some
  unfold z_addR
  cases h1 : z_kn env x with
  | none => exact key
  | some m =>
    cases h2 : z_kn env y with
    | none => exact key
    | some n =>
      have e1 := zv_kn he hx h1
      have e2 := zv_kn he hy h2
      cases e1
      cases e2
      show Value.int (nI m + nI n) = .int (nI (z_add m n))
      rw [z_add_ok]
theorem z_subR_ok {x y : zV} {p q : Int32} (he : ze ρ env) (hx : zv ρ b ad x (.int p)) (hy : zv ρ b ad y (.int q)) : zv ρ b ad (z_subR env x y) (.int (p - q)) := by
  have key : zv ρ b ad (match z_rg env x, z_rg env y with
    | some p, some q => if Nat.ble q.2 (p.1 + z_31) && Nat.blt (p.2 + z_31) (z_32 + q.1) && Nat.ble q.1 (p.2 + z_31) then ((9, (p.1 + z_31 - q.2) * z_32 + (p.2 + z_31 - q.1)) : zV) else (2, 0)
    | _, _ => (2, 0)) (.int (p - q)) := by
    cases h1 : z_rg env x with
    | none => exact zv_some
    | some u =>
      cases h2 : z_rg env y with
      | none => exact zv_some
      | some w =>
        obtain ⟨p', e1, a1, a2⟩ := zv_rg he hx h1
        obtain ⟨q', e2, b1, b2⟩ := zv_rg he hy h2
        cases e1
        cases e2
        dsimp only
        split
        · rename_i hb
          simp only [Bool.and_eq_true] at hb
          have c1 : w.2 ≤ u.1 + z_31 := Nat.le_of_ble_eq_true hb.1.1
          have c2 : u.2 + z_31 < z_32 + w.1 := Nat.le_of_ble_eq_true hb.1.2
          have c3 : w.1 ≤ u.2 + z_31 := Nat.le_of_ble_eq_true hb.2
          unfold z_31 at c3
          unfold z_31 at c1
          unfold z_31 z_32 at c2
          have d1 := zu_int p
          have d2 := zu_int q
          have d3 : (p - q).toInt = p.toInt - q.toInt := by
            rw [Int32.toInt_sub]
            have g1 := Int32.toInt_lt p
            have g2 := Int32.toInt_lt q
            apply Int.bmod_eq_of_le <;> omega
          have d4 := zu_int (p - q)
          refine ⟨p - q, rfl, ?_, ?_⟩
          · show ((u.1 + z_31 - w.2) * z_32 + (u.2 + z_31 - w.1)) / z_32 ≤ zu (p - q)
            unfold z_31 z_32
            omega
          · show zu (p - q) ≤ ((u.1 + z_31 - w.2) * z_32 + (u.2 + z_31 - w.1)) % z_32
            unfold z_31 z_32
            omega
        · exact zv_some
  unfold z_subR
  cases h1 : z_kn env x with
  | none => exact key
  | some m =>
    cases h2 : z_kn env y with
    | none => exact key
    | some n =>
      have e1 := zv_kn he hx h1
      have e2 := zv_kn he hy h2
      cases e1
      cases e2
      show Value.int (nI m - nI n) = .int (nI (z_sub m n))
      rw [z_sub_ok]
theorem z_and_ok {x y : zV} {p q : Int32} (he : ze ρ env) (hx : zv ρ b ad x (.int p)) (hy : zv ρ b ad y (.int q)) : zv ρ b ad (z_and env x y) (.int (p &&& q)) := by
  unfold z_and
  split
  · have e1 : Value.int p = .int (ρ 0) := hx
    have e2 : Value.int q = .int (nI 31) := hy
    cases e1
    cases e2
    show Value.int (ρ 0 &&& nI 31) = .int (ρ 6)
    rw [he.2.1]
    rfl
  · refine z_i2_ok (fun m n => ?_) he hx hy
    show Int32.ofNat m &&& Int32.ofNat n = Int32.ofNat (m &&& n)
    rw [← Int32.toBitVec_inj]
    simp
theorem z_l2_ok {f : Nat → Nat → Nat} {op : Int64 → Int64 → Int64} (hf : ∀ m n, op (lN m) (lN n) = lN (f m n)) {x y : zV} {p q : Int64} (hx : zv ρ b ad x (.long p)) (hy : zv ρ b ad y (.long q)) : zv ρ b ad (z_l2 f x y) (.long (op p q)) := by
  unfold z_l2
  split
  · rename_i h1 h2
    obtain ⟨t1, n1⟩ := x
    obtain ⟨t2, n2⟩ := y
    dsimp only at h1 h2
    subst h1
    subst h2
    have e1 : Value.long p = .long (lN n1) := hx
    have e2 : Value.long q = .long (lN n2) := hy
    cases e1
    cases e2
    show Value.long _ = .long _
    rw [hf]
  · exact ⟨_, rfl⟩
theorem z_div_ok {x y : zV} {p q : Int32} (he : ze ρ env) (hp : z_pos y = true) (hx : zv ρ b ad x (.int p)) (hy : zv ρ b ad y (.int q)) : ¬ q = 0 ∧ zv ρ b ad (z_div env x y) (.int (p / q)) ∧ zv ρ b ad (z_rem env x y) (.int (p - p / q * q)) := by
  obtain ⟨t, n⟩ := y
  simp only [z_pos, Bool.and_eq_true] at hp
  have e0 : t = 0 := Nat.eq_of_beq_eq_true hp.1.1
  subst e0
  have h0 : 0 < n := Nat.le_of_ble_eq_true hp.1.2
  have h1 : n < 2147483648 := Nat.le_of_ble_eq_true hp.2
  have e2 : Value.int q = .int (nI n) := hy
  cases e2
  refine ⟨nI_ne0 h0 (by omega), ?_, ?_⟩
  · unfold z_div
    cases h3 : z_kn env x with
    | none => exact zv_some
    | some m =>
      dsimp only
      split
      · rename_i hb
        have hb : m < 2147483648 := Nat.le_of_ble_eq_true hb
        have e1 := zv_kn he hx h3
        cases e1
        show Value.int (nI m / nI n) = .int (nI (m / n))
        rw [pk_div (by omega) h0 (by omega)]
      · exact zv_some
  · unfold z_rem
    cases h3 : z_kn env x with
    | none => exact zv_some
    | some m =>
      dsimp only
      split
      · rename_i hb
        have hb : m < 2147483648 := Nat.le_of_ble_eq_true hb
        have e1 := zv_kn he hx h3
        cases e1
        show Value.int (nI m - nI m / nI n * nI n) = .int (nI (m % n))
        rw [pk_rem (by omega) h0 (by omega)]
      · exact zv_some
theorem z_i2l (n : Nat) : (nI n).toInt64 = lN (if Nat.blt (n % z_32) z_31 then n % z_32 else z_64 - z_32 + n % z_32) := by
  rw [← Int64.toInt_inj, Int32.toInt_toInt64]
  have d1 := zu_int (nI n)
  rw [zu_nI] at d1
  unfold z_up z_31 z_32 at d1
  have hn : n % z_32 < 4294967296 := Nat.mod_lt _ (by decide)
  generalize hq : n % z_32 = q at hn ⊢
  have hq2 : n % 4294967296 = q := hq
  by_cases hb : q < 2147483648
  · rw [if_pos (show Nat.blt q z_31 = true from Nat.ble_eq_true_of_le hb), pk_lT (by omega)]
    omega
  · rw [if_neg (show ¬ Nat.blt q z_31 = true from fun z => hb (Nat.le_of_ble_eq_true z))]
    have e : (lN (z_64 - z_32 + q)).toInt = ((z_64 - z_32 + q : Nat) : Int).bmod ((18446744073709551616 : Nat)) := Int64.toInt_ofNat'
    have e2 : ((z_64 - z_32 + q : Nat) : Int) = ((q : Int) - 4294967296) + ((18446744073709551616 : Nat) : Int) := by
      unfold z_64 z_32
      omega
    rw [e, e2, Int.add_bmod_right, Int.bmod_eq_of_le (by omega) (by omega)]
    omega
theorem z_long_ok {x : zV} {p : Int32} (he : ze ρ env) (hx : zv ρ b ad x (.int p)) : zv ρ b ad (z_long env x) (.long p.toInt64) := by
  unfold z_long
  cases h1 : z_kn env x with
  | none =>
    dsimp only
    split
    · rename_i h2
      obtain ⟨t, n⟩ := x
      have h2 := Nat.eq_of_beq_eq_true h2
      dsimp only at h2
      subst h2
      have e1 : Value.int p = .int (ρ n) := hx
      cases e1
      rfl
    · exact ⟨_, rfl⟩
  | some n =>
    have e1 := zv_kn he hx h1
    cases e1
    exact congrArg Value.long (z_i2l n)
theorem z_l2i_ok {x : zV} {p : Int64} (hl : z_isL x = true) (hx : zv ρ b ad x (.long p)) : zv ρ b ad (z_l2i x) (.int p.toInt32) := by
  obtain ⟨t, n⟩ := x
  unfold z_l2i
  split
  · rename_i h1
    dsimp only at h1
    subst h1
    have e1 : Value.long p = .long (lN n) := hx
    cases e1
    show Value.int _ = .int (nI (n % z_32))
    rw [nI_m, lN_i]
  · exact zv_some
end ZA
