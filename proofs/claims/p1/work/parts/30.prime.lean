/-! THE LOOP THAT LOOKS FOR DIVISORS -/
def z_r0 (k : Nat) : Int32 := if k = 8 then 1 else 0
theorem ze_r0 : ze z_r0 [] := ⟨fun k q h => (by unfold z_at at h; cases h), by decide +kernel, by decide +kernel⟩
theorem z_nIrem {P d : Nat} (hP : P < 2147483648) (hd : 0 < d) (hd2 : d < 2147483648) : nI P - nI P / nI d * nI d = nI (P % d) := by
  have h := (z_div_ok (ρ := z_r0) (b := 0) (ad := []) (env := []) (x := (0, P)) (y := (0, d)) (p := nI P) (q := nI d) ze_r0 (by
    show (Nat.beq 0 0 && Nat.blt 0 d && Nat.blt d z_31) = true
    have h1 : Nat.blt 0 d = true := Nat.ble_eq_true_of_le hd
    have h2 : Nat.blt d z_31 = true := Nat.ble_eq_true_of_le hd2
    rw [h1, h2]
    rfl) rfl rfl).2.2
  have e1 : z_rem [] (0, P) (0, d) = (0, P % d) := by
    have h2 : Nat.blt P z_31 = true := Nat.ble_eq_true_of_le hP
    show (if Nat.blt P z_31 then ((0, P % d) : zV) else (2, 0)) = _
    rw [if_pos h2]
  rw [e1] at h
  have h : Value.int (nI P - nI P / nI d * nI d) = .int (nI (P % d)) := h
  exact Value.int.inj h
section ZPR
variable {p : Program} {l : Launch} {e : Env} {R : Room} {s : State} {m : MethodId} {args : Array Value} {below : List Frame} {meth : Method} {c : Code} {Q : State → Prop} {cc : ByteArray} {nL : Nat} {H : Heap} {locs : List Loc} {cells slots : Nat}
theorem zw_prime (hx : p.tables.exec = Jvm.exec) (hb : c.code = cc) (hn : 3 < nL)
    (d15 : decode cc 15 = .ok (.iload_n 3, 1)) (d16 : decode cc 16 = .ok (.iload_n 1, 1)) (d17 : decode cc 17 = .ok (.if_icmp .ge 25, 3)) (d20 : decode cc 20 = .ok (.iload_n 2, 1)) (d21 : decode cc 21 = .ok (.ifCond .eq 13, 3)) (d24 : decode cc 24 = .ok (.iload_n 1, 1)) (d25 : decode cc 25 = .ok (.iload_n 3, 1)) (d26 : decode cc 26 = .ok (.irem, 1)) (d27 : decode cc 27 = .ok (.ifCond .eq 7, 3)) (d30 : decode cc 30 = .ok (.iconst 1, 1)) (d31 : decode cc 31 = .ok (.goto 4, 3)) (d34 : decode cc 34 = .ok (.iconst 0, 1)) (d35 : decode cc 35 = .ok (.istore_n 2, 1)) (d36 : decode cc 36 = .ok (.iinc 3 1, 3)) (d39 : decode cc 39 = .ok (.goto (-24), 3))
    {P : Nat} (hP : P < 2147483648) : ∀ (n d : Nat) (f : Bool) (ls : Array Slot), 2 ≤ d → d + n = P → lv_has ls nL [(1, .int (nI P)), (2, .int (nI (if f then 1 else 0))), (3, .int (nI d))] →
      (∀ ls' : Array Slot, lv_has ls' nL [(1, .int (nI P)), (2, .int (nI (if f && z_free P n d then 1 else 0)))] → W p l e R s m args below meth c H locs cells slots Q (F0 m 42 ls' [])) → W p l e R s m args below meth c H locs cells slots Q (F0 m 15 ls []) := by
  intro n
  induction n with
  | zero =>
    intro d f ls h2 hdn hl kk
    refine lv_iload_n hx hb d15 rfl (lv_at hl 2 rfl) ?_
    refine lv_iload_n hx hb d16 rfl (lv_at hl 0 rfl) ?_
    refine lv_icmp_ge hx hb d17 (tgt := 42) rfl (fun _ => ?_) (fun h => absurd (nI_le (by omega) (by omega)) h)
    refine kk ls ?_
    have : z_free P 0 d = true := rfl
    rw [this, Bool.and_true]
    exact lv_sub hl [0, 1] rfl
  | succ n ih =>
    intro d f ls h2 hdn hl kk
    refine lv_iload_n hx hb d15 rfl (lv_at hl 2 rfl) ?_
    refine lv_iload_n hx hb d16 rfl (lv_at hl 0 rfl) ?_
    refine lv_icmp_ge hx hb d17 (tgt := 42) rfl (fun h => absurd h (nI_ge (by omega) (by omega))) (fun _ => ?_)
    have fin : ∀ (g : Bool) (ls1 : Array Slot), (g = (f && !(Nat.beq (P % d) 0))) → lv_has ls1 nL [(1, .int (nI P)), (2, .int (nI (if f then 1 else 0))), (3, .int (nI d))] → W p l e R s m args below meth c H locs cells slots Q (F0 m 35 ls1 [.int (nI (if g then 1 else 0))]) := by
      intro g ls1 hg h1
      refine lv_istore_n hx hb d35 rfl h1 (by omega) rfl (fun ls2 h2 => ?_)
      refine lv_iinc hx hb d36 h2 (k := 2) rfl (v := nI (d + 1)) ?_ (by omega) rfl (fun ls3 h3 => ?_)
      · exact nI_1 d
      refine lv_goto hx hb d39 (tgt := 15) rfl ?_
      refine ih (d + 1) g ls3 (by omega) (by omega) (lv_sub h3 [2, 1, 0] rfl) (fun ls' h' => kk ls' ?_)
      have e1 : (g && z_free P n (d + 1)) = (f && z_free P (n + 1) d) := by
        rw [hg]
        show _ = (f && (if Nat.beq (P % d) 0 then false else z_free P n (d + 1)))
        cases f <;> cases Nat.beq (P % d) 0 <;> simp
      rw [← e1]
      exact h'
    refine lv_iload_n hx hb d20 rfl (lv_at hl 1 rfl) ?_
    cases f with
    | false =>
      refine lv_if_eq hx hb d21 (tgt := 34) rfl (fun _ => ?_) (fun h => absurd rfl h)
      refine lv_iconst hx hb d34 (v := nI 0) rfl ?_
      exact fin false ls rfl hl
    | true =>
      refine lv_if_eq hx hb d21 (tgt := 34) rfl (fun h => absurd h (by decide +kernel)) (fun _ => ?_)
      refine lv_iload_n hx hb d24 rfl (lv_at hl 0 rfl) ?_
      refine lv_iload_n hx hb d25 rfl (lv_at hl 2 rfl) ?_
      refine lv_irem hx hb d26 (nI_ne0 (by omega) (by omega)) ?_
      rw [z_nIrem hP (by omega) (by omega)]
      have hlt : P % d < 2147483648 := Nat.lt_of_le_of_lt (Nat.mod_le _ _) hP
      refine lv_if_eq hx hb d27 (tgt := 34) rfl (fun h => ?_) (fun h => ?_)
      · refine lv_iconst hx hb d34 (v := nI 0) rfl ?_
        have e0 : P % d = 0 := (nI_eq (a := P % d) (b := 0) hlt (by omega)).mp h
        exact fin false ls (by rw [e0]; rfl) hl
      · refine lv_iconst hx hb d30 (v := nI 1) rfl ?_
        refine lv_goto hx hb d31 (tgt := 35) rfl ?_
        have e0 : Nat.beq (P % d) 0 = false := Bool.eq_false_iff.mpr (fun z => h (by rw [Nat.eq_of_beq_eq_true z]; rfl))
        exact fin true ls (by rw [e0]; rfl) hl
end ZPR
section ZPI
variable {X : State → Nat → (Nat → Prop) → (Nat → Int32) → Prop} {own mn : String} {cc : ByteArray} {nL : Nat} {W0 : List Cond} {cl : List vw_C} {ft : List FieldType} {G : zG} {me : zP} {a a1 a2 : Nat}
theorem zi_prime (hn : 3 < nL)
    (d15 : decode cc 15 = .ok (.iload_n 3, 1)) (d16 : decode cc 16 = .ok (.iload_n 1, 1)) (d17 : decode cc 17 = .ok (.if_icmp .ge 25, 3)) (d20 : decode cc 20 = .ok (.iload_n 2, 1)) (d21 : decode cc 21 = .ok (.ifCond .eq 13, 3)) (d24 : decode cc 24 = .ok (.iload_n 1, 1)) (d25 : decode cc 25 = .ok (.iload_n 3, 1)) (d26 : decode cc 26 = .ok (.irem, 1)) (d27 : decode cc 27 = .ok (.ifCond .eq 7, 3)) (d30 : decode cc 30 = .ok (.iconst 1, 1)) (d31 : decode cc 31 = .ok (.goto 4, 3)) (d34 : decode cc 34 = .ok (.iconst 0, 1)) (d35 : decode cc 35 = .ok (.istore_n 2, 1)) (d36 : decode cc 36 = .ok (.iinc 3 1, 3)) (d39 : decode cc 39 = .ok (.goto (-24), 3)) : zIok X own mn cc nL W0 cl ft G me (15, 75, a, a1, a2) 42 := by
  intro p l e R s m args below meth c Q D A ρ b ad0 k hC hF hL he hX
  obtain ⟨hx, hb, hml, hown, hts, hA, hlocks, hmn⟩ := hC
  obtain ⟨ls0, st0, S⟩ := k
  show zres p l e R s m args below meth c Q D cl A ft ρ b nL ad0 me _ _ _ (match z_get ls0 1, z_get ls0 2, z_get ls0 3, st0 with
    | some p, some q, some d, [] => if Nat.beq p.1 0 && Nat.ble p.2 1000000 && Nat.ble 2 p.2 && z_eqv q (0, 1) && z_eqv d (0, 2) then zn_on [(1, p), (2, (0, if z_free p.2 (p.2 - 2) 2 then 1 else 0))] [] S else zn_bad (ls0, st0, S)
    | _, _, _, _ => zn_bad (ls0, st0, S))
  cases h1 : z_get ls0 1 with
  | none => exact trivial
  | some v1 =>
  cases h2 : z_get ls0 2 with
  | none => exact trivial
  | some v2 =>
  cases h3 : z_get ls0 3 with
  | none => exact trivial
  | some v3 =>
  match st0 with
  | _ :: _ => exact trivial
  | [] =>
    dsimp only
    split
    · rename_i ht
      simp only [Bool.and_eq_true] at ht
      obtain ⟨⟨⟨⟨t1, t2⟩, t3⟩, t4⟩, t5⟩ := ht
      obtain ⟨x1, P⟩ := v1
      have t1 := Nat.eq_of_beq_eq_true t1
      dsimp only at t1
      subst t1
      have t2 : P ≤ 1000000 := Nat.le_of_ble_eq_true t2
      have t3 : 2 ≤ P := Nat.le_of_ble_eq_true t3
      have t4 := z_eqv_ok t4
      have t5 := z_eqv_ok t5
      subst t4 t5
      intro _ _ kk ws tys H locs ls lv st hP hD hK hS hw had hl hlv hst
      match st, hst with
      | [], _ =>
        obtain ⟨j1, w1, g1, g2⟩ := zl_get hlv h1
        obtain ⟨j2, w2, g3, g4⟩ := zl_get hlv h2
        obtain ⟨j3, w3, g5, g6⟩ := zl_get hlv h3
        have g2 : w1 = .int (nI P) := g2
        have g4 : w2 = .int (nI 1) := g4
        have g6 : w3 = .int (nI 2) := g6
        subst g2 g4 g6
        refine zw_prime hx hb hn d15 d16 d17 d20 d21 d24 d25 d26 d27 d30 d31 d34 d35 d36 d39 (P := P) (by omega) (P - 2) 2 true ls (Nat.le_refl _) (by omega) (lv_sub hl [j1, j2, j3] (by unfold lv_pick; simp [g1, g3, g5])) (fun ls' h' => ?_)
        refine kk ws tys H locs ls' _ [] hP hD hK hS hw had h' ⟨⟨rfl, rfl⟩, ⟨rfl, ?_⟩, trivial⟩ trivial
        show Value.int _ = .int _
        rw [Bool.true_and]
    · exact trivial
end ZPI
