/-! A LOOP OVER TIME -/
/-- x in the place of the counter -/
def z_ren (x v : zV) : zV := if Nat.beq v.1 1 && Nat.beq v.2 7 then x else if Nat.beq v.1 1 && Nat.beq v.2 8 then (11, 0) else if Nat.beq v.1 10 && Nat.ble 7 v.2 then (11, 0) else v
def z_mapC (f : zV → zV) (c : zC) : zC := (c.1, c.2.1, c.2.2.1, c.2.2.2.map f)
def z_mapH (f : zV → zV) (h : List (List zC)) : List (List zC) := h.map (fun b => b.map (z_mapC f))
theorem z_at_map {α β : Type} (f : α → β) : ∀ {l : List α} {j : Nat} {v : β}, z_at (l.map f) j = some v → ∃ u, z_at l j = some u ∧ v = f u
  | [], _, _, h => by unfold z_at at h; cases h
  | x :: l, 0, v, h => ⟨x, rfl, (Option.some.inj h).symm⟩
  | x :: l, j + 1, v, h => z_at_map f (l := l) (j := j) h
theorem z_map_at {α β : Type} (f : α → β) : ∀ {l : List α} {j : Nat} {u : α}, z_at l j = some u → z_at (l.map f) j = some (f u)
  | [], _, _, h => by unfold z_at at h; cases h
  | x :: l, 0, u, h => by cases h; rfl
  | x :: l, j + 1, u, h => z_map_at f (l := l) (j := j) h
theorem zl_map2 {α β γ δ : Type} {P : β → δ → Prop} {Q : γ → δ → Prop} {f : α → β} {g : α → γ} (h : ∀ a d, P (f a) d → Q (g a) d) : ∀ {l : List α} {m : List δ}, zl P (l.map f) m → zl Q (l.map g) m
  | [], [], _ => trivial
  | [], _ :: _, h => h.elim
  | _ :: _, [], h => h.elim
  | a :: l, d :: m, q => ⟨h a d q.1, zl_map2 h q.2⟩
theorem zc_map {ρ ρ' : Nat → Int32} {b : Nat} {ad : List Nat} {tys : List (ClassId × FieldType)} {f g : zV → zV} (h : ∀ v w, zv ρ b ad (f v) w → zv ρ' b ad (g v) w) {c : zC} {e : va_E} (hc : zc ρ b ad tys (z_mapC f c) e) : zc ρ' b ad tys (z_mapC g c) e := by
  obtain ⟨t, x, n, l⟩ := c
  match t, hc with
  | 0, hc => obtain ⟨fs, h1, h2⟩ := hc; exact ⟨fs, h1, zl_map2 h h2⟩
  | 1, hc => obtain ⟨cA, q, ty, h1, h2, h3⟩ := hc; exact ⟨cA, q, ty, h1, h2, fun j v hv => by obtain ⟨u, e1, rfl⟩ := z_at_map g hv; exact h u _ (h3 j _ (z_map_at f e1))⟩
  | 2, hc => obtain ⟨cA, q, ty, h1, h2, h3⟩ := hc; exact ⟨cA, q, ty, h1, h2, fun j v hj hv => by obtain ⟨u, e1, rfl⟩ := z_at_map g hv; exact h u _ (h3 j _ hj (z_map_at f e1))⟩
  | 4, hc => obtain ⟨cA, q, ty, h1, h2, h3⟩ := hc; exact ⟨cA, q, ty, h1, h2, fun j v hv => by obtain ⟨u, e1, rfl⟩ := z_at_map g hv; exact h u _ (h3 j _ (z_map_at f e1))⟩
  | 5, hc => obtain ⟨cA, q, ty, h1, h2, h3⟩ := hc; exact ⟨cA, q, ty, h1, h2, fun j v hj hv => by obtain ⟨u, e1, rfl⟩ := z_at_map g hv; exact h u _ (h3 j _ hj (z_map_at f e1))⟩
  | 6, hc => obtain ⟨cA, q, ty, h1, h2, h3⟩ := hc; exact ⟨cA, q, ty, h1, h2, fun j v hv => by obtain ⟨u, e1, rfl⟩ := z_at_map g hv; exact h u _ (h3 j _ (z_map_at f e1))⟩
  | 8, hc => obtain ⟨cA, q, ty, h1, h2, h3⟩ := hc; exact ⟨cA, q, ty, h1, h2, fun j v hj hv => by obtain ⟨u, e1, rfl⟩ := z_at_map g hv; exact h u _ (h3 j _ hj (z_map_at f e1))⟩
  | 3, hc => exact hc.elim
  | 7, hc => exact hc.elim
  | _ + 9, hc => exact hc.elim
theorem z_flat_map (f : zV → zV) : ∀ (h : List (List zC)), z_flat (z_mapH f h) = (z_flat h).map (z_mapC f)
  | [] => rfl
  | b :: r => by
    show b.map (z_mapC f) ++ z_flat (z_mapH f r) = (b ++ z_flat r).map (z_mapC f)
    rw [z_flat_map f r, List.map_append]
theorem z_sh_map (f : zV → zV) : ∀ {h : List (List zC)}, z_sh (z_mapH f h) ↔ z_sh h
  | [] => Iff.rfl
  | b :: [] => by
    show (b.map (z_mapC f)).length ≤ 16 ↔ b.length ≤ 16
    rw [List.length_map]
  | b :: b2 :: r => by
    show ((b.map (z_mapC f)).length = 16 ∧ z_sh (z_mapH f (b2 :: r))) ↔ (b.length = 16 ∧ z_sh (b2 :: r))
    rw [List.length_map, z_sh_map f]
theorem zw_map {ft : List FieldType} {ρ ρ' : Nat → Int32} {b : Nat} {T : List (List zC)} {t : List Nat} {u : Nat × Nat} {ws : va_W} {tys : List (ClassId × FieldType)} {f g : zV → zV} (h : ∀ ad v w, zv ρ b ad (f v) w → zv ρ' b ad (g v) w) (hw : zw ft ρ b (z_mapH f T, t, u) ws tys) : zw ft ρ' b (z_mapH g T, t, u) ws tys := by
  obtain ⟨h1, h2, h3, h4⟩ := hw
  refine ⟨(z_sh_map g).mpr ((z_sh_map f).mp h1), h2, ?_, fun k c hc => ?_⟩
  · have h3 : ws.length = (z_flat (z_mapH f T)).length := h3
    show ws.length = (z_flat (z_mapH g T)).length
    rw [z_flat_map, List.length_map] at h3 ⊢
    exact h3
  · have hc : (z_flat (z_mapH g T))[k]? = some c := hc
    rw [z_flat_map, List.getElem?_map] at hc
    cases hq : (z_flat T)[k]? with
    | none => rw [hq] at hc; cases hc
    | some c0 =>
      rw [hq] at hc
      cases hc
      obtain ⟨q, q1, q2⟩ := h4 k (z_mapC f c0) (by
        show (z_flat (z_mapH f T))[k]? = _
        rw [z_flat_map, List.getElem?_map, hq]
        rfl)
      exact ⟨q, q1, zc_map (h _) q2⟩
theorem zv_ag {ρ ρ' : Nat → Int32} {b : Nat} {ad : List Nat} {v : zV} {w : Value} (h1 : v.1 = 1 → ρ' v.2 = ρ v.2) (h10 : v.1 = 10 → ρ' v.2 = ρ v.2) (h : zv ρ b ad v w) : zv ρ' b ad v w := by
  obtain ⟨t, n⟩ := v
  match t, h, h1, h10 with
  | 0, h, _, _ =>
    have h : w = .int (nI n) := h
    exact h
  | 1, h, h1, _ =>
    have h : w = .int (ρ n) := h
    have e1 : ρ' n = ρ n := h1 rfl
    have h2 : w = .int (ρ' n) := by rw [e1]; exact h
    exact h2
  | 2, h, _, _ =>
    have h : ∃ x, w = .int x := h
    exact h
  | 3, h, _, _ =>
    have h : w = .long (lN n) := h
    exact h
  | 4, h, _, _ =>
    have h : ∃ x, w = .long x := h
    exact h
  | 5, h, _, _ =>
    have h : w = .null := h
    exact h
  | 6, h, _, _ =>
    have h : ∃ a, ad[n]? = some a ∧ w = .ref a := h
    exact h
  | 7, h, _, _ =>
    have h : ∃ a, w = .ref a := h
    exact h
  | 8, h, _, _ =>
    have h : w = .ref b := h
    exact h
  | 9, h, _, _ =>
    obtain ⟨x, e1, e2, e3⟩ := h
    exact ⟨x, e1, e2, e3⟩
  | 10, h, _, h10 =>
    have h : w = .long (ρ n).toInt64 := h
    have e1 : ρ' n = ρ n := h10 rfl
    have h2 : w = .long (ρ' n).toInt64 := by rw [e1]; exact h
    exact h2
  | _ + 11, h, _, _ => exact h.elim
theorem z_b2 {p q : Nat} {x y : Nat} (hx : p = x) (hy : q = y) : (Nat.beq p x && Nat.beq q y) = true := by
  subst hx hy
  rw [Nat.beq_refl, Nat.beq_refl]
  rfl
/-- the counter's value changes -/
theorem zv_ren {ρ ρ' : Nat → Int32} {b : Nat} {ad : List Nat} {x y : zV} (hag : ∀ k, k ≠ 7 → k ≠ 8 → ρ' k = ρ k) (hxy : ∀ w, zv ρ b ad x w → zv ρ' b ad y w) (v : zV) (w : Value) (h : zv ρ b ad (z_ren x v) w) : zv ρ' b ad (z_ren y v) w := by
  unfold z_ren at h ⊢
  by_cases h7 : (Nat.beq v.1 1 && Nat.beq v.2 7) = true
  · rw [if_pos h7] at h ⊢
    exact hxy w h
  · rw [if_neg h7] at h ⊢
    by_cases h8 : (Nat.beq v.1 1 && Nat.beq v.2 8) = true
    · rw [if_pos h8] at h
      exact h.elim
    · rw [if_neg h8] at h ⊢
      by_cases h10 : (Nat.beq v.1 10 && Nat.ble 7 v.2) = true
      · rw [if_pos h10] at h
        exact h.elim
      · rw [if_neg h10] at h ⊢
        refine zv_ag (fun h1 => ?_) (fun h1 => ?_) h
        · exact hag _ (fun z => h7 (z_b2 h1 z)) (fun z => h8 (z_b2 h1 z))
        · have e0 : v.2 < 7 := Nat.lt_of_not_le (fun z => h10 (by rw [h1, Nat.beq_refl, Nat.ble_eq_true_of_le z]; rfl))
          exact hag _ (by omega) (by omega)
section ZLP
variable {p : Program} {l : Launch} {e : Env} {R : Room} {s : State} {m : MethodId} {args : Array Value} {below : List Frame} {meth : Method} {c : Code} {Q : State → Prop} {D : va_G} {cl : List vw_C} {A : Nat → Prop} {ft : List FieldType} {ρ ρ' : Nat → Int32} {b nL : Nat} {ad0 : List Nat} {pc : Nat}
def z_hole (x : zV) (ls : zL) (T : List (List zC)) (t : List Nat) : zK := (ls.map (fun q => (q.1, z_ren x q.2)), [], (z_mapH (z_ren x) T, t, 0, 0))
theorem z_retime {x y : zV} {ls0 : zL} {T : List (List zC)} {t : List Nat} (hag : ∀ k, k ≠ 7 → k ≠ 8 → ρ' k = ρ k) (hxy : ∀ ad w, zv ρ b ad x w → zv ρ' b ad y w)
    (kk : zgo p l e R s m args below meth c Q D cl A ft ρ' b nL ad0 pc (z_hole y ls0 T t)) : zgo p l e R s m args below meth c Q D cl A ft ρ b nL ad0 pc (z_hole x ls0 T t) := by
  intro ws tys H locs ls lv st hP hD hK hS hw had hl hlv hst
  refine kk ws tys H locs ls lv st hP hD hK hS (zw_map (fun ad v w => zv_ren hag (hxy ad) v w) hw) had hl ?_ ?_
  · exact zl_map2 (fun a d q => ⟨q.1, zv_ren hag (hxy _) a.2 d.2 q.2⟩) hlv
  · match st, hst with
    | [], _ => exact trivial
/-- fewer locals -/
theorem z_pickL {ls0 l' : zL} {st0 : List zV} {S : zS} (hp : ∀ q ∈ l', z_get ls0 q.1 = some q.2) (kk : zgo p l e R s m args below meth c Q D cl A ft ρ b nL ad0 pc (l', st0, S)) : zgo p l e R s m args below meth c Q D cl A ft ρ b nL ad0 pc (ls0, st0, S) := by
  intro ws tys H locs ls lv st hP hD hK hS hw had hl hlv hst
  have key : ∀ l1 : zL, (∀ q ∈ l1, z_get ls0 q.1 = some q.2) → ∃ lv1 : List (Nat × Value), (∀ q ∈ lv1, q ∈ lv) ∧ zl (fun x y => x.1 = y.1 ∧ zv ρ b (ws.map (fun q => q.1)) x.2 y.2) l1 lv1 := by
    intro l1
    induction l1 with
    | nil => exact fun _ => ⟨[], fun q h => (by cases h), trivial⟩
    | cons a l1 ih =>
      intro h1
      obtain ⟨lv1, g1, g2⟩ := ih (fun q hq => h1 q (List.mem_cons_of_mem _ hq))
      obtain ⟨j, w, e1, e2⟩ := zl_get hlv (h1 a List.mem_cons_self)
      refine ⟨(a.1, w) :: lv1, fun q hq => ?_, ⟨rfl, e2⟩, g2⟩
      rcases List.mem_cons.mp hq with rfl | hq
      · exact List.mem_of_getElem? e1
      · exact g1 q hq
  obtain ⟨lv1, g1, g2⟩ := key l' hp
  exact kk ws tys H locs ls lv1 st hP hD hK hS hw had ⟨hl.1, hl.2.1, fun q hq => hl.2.2 q (g1 q hq)⟩ g2 hst
end ZLP
/-- the counter stands at i -/
def z_rho (ρ : Nat → Int32) (i : Nat) (k : Nat) : Int32 := if k = 7 then nI i else if k = 8 then nI (i + 1) else ρ k
theorem z_rho_ag {ρ : Nat → Int32} {i : Nat} (k : Nat) (h7 : k ≠ 7) (h8 : k ≠ 8) : z_rho ρ i k = ρ k := by
  unfold z_rho
  rw [if_neg h7, if_neg h8]
def z_any : Nat × Nat := (0, 4294967295)
/-- the ranges within the loop -/
def z_envL : List (Nat × Nat) := [z_any, (2147483649, 2147484648), z_any, z_any, z_any, z_any, z_any, (2147483648, 2147484647), (2147483649, 2147484648)]
theorem z_rho_e {ρ : Nat → Int32} {i : Nat} (he : ze ρ []) (h1 : 2147483649 ≤ zu (ρ 1)) (h2 : zu (ρ 1) ≤ 2147484648) (hi : i < 1000) : ze (z_rho ρ i) z_envL := by
  refine ⟨fun k q hq => ?_, ?_, ?_⟩
  · have hall : ∀ x : Int32, 0 ≤ zu x ∧ zu x ≤ 4294967295 := fun x => ⟨Nat.zero_le _, by have := zu_lt32 x; omega⟩
    match k, hq with
    | 0, hq => cases hq; exact hall _
    | 1, hq => cases hq; exact ⟨h1, h2⟩
    | 2, hq => cases hq; exact hall _
    | 3, hq => cases hq; exact hall _
    | 4, hq => cases hq; exact hall _
    | 5, hq => cases hq; exact hall _
    | 6, hq => cases hq; exact hall _
    | 7, hq =>
      cases hq
      show 2147483648 ≤ zu (nI i) ∧ zu (nI i) ≤ 2147484647
      rw [zu_nI]
      unfold z_up z_31 z_32
      omega
    | 8, hq =>
      cases hq
      show 2147483649 ≤ zu (nI (i + 1)) ∧ zu (nI (i + 1)) ≤ 2147484648
      rw [zu_nI]
      unfold z_up z_31 z_32
      omega
    | k + 9, hq => exact absurd (show (none : Option (Nat × Nat)) = some q from hq) (by simp)
  · show ρ 6 = ρ 0 &&& 31
    exact he.2.1
  · show nI (i + 1) = nI i + 1
    exact (nI_1 i).symm
section ZLO
variable {X : State → Nat → (Nat → Prop) → (Nat → Int32) → Prop} {QF : zQT} {WL : Nat → List Cond} {Y : Nat → zY} {W0 : Nat → List Cond} {ET : Nat → List ExceptionTableEntry} {cl : List vw_C} {ft : List FieldType} {G : zG} {me : zP}
/-- what is known doesn't speak of the counter -/
def zXr (X : State → Nat → (Nat → Prop) → (Nat → Int32) → Prop) : Prop := ∀ (s : State) (b : Nat) (A : Nat → Prop) (ρ ρ' : Nat → Int32), (∀ k, k ≠ 7 → k ≠ 8 → ρ' k = ρ k) → X s b A ρ → X s b A ρ'
def z_L (j : Nat) : zL := [(0, (6, j)), (1, (1, 1)), (2, (1, 7))]
theorem zi_loop {a i j d pcH pcE a1 a2 : Nat} {off : Int} {T : List (List zC)} {t : List Nat} {q : zSum} {frB : List zJ} {ls8 : zL} (hq : z_at G.1.2 i = some q) (hqq : q = ((a, d), [(6, j), (1, 1), (0, 0)], z_mapH (z_ren (0, 0)) T, t, (6, j), z_mapH (z_ren (1, 1)) T)) (hXr : zXr X)
    (hB : ∀ (ρ : Nat → Int32) (b : Nat), ze ρ z_envL → zbody X QF Y W0 ET cl ft ρ b a d frB (z_hole (1, 7) (z_L j) T t) (5, (pcH, 0), (ls8, [], (z_mapH (z_ren (1, 8)) T, t, 0, 0))))
    (h8 : z_get ls8 0 = some (6, j) ∧ z_get ls8 1 = some (1, 1) ∧ z_get ls8 2 = some (1, 8)) (hpB : zpc frB (pcH + 5))
    (dH : decode (Y a).2.1 pcH = .ok (.iload_n 2, 1)) (dH1 : decode (Y a).2.1 (pcH + 1) = .ok (.iload_n 1, 1)) (dH2 : decode (Y a).2.1 (pcH + 2) = .ok (.if_icmp .ge off, 3)) (ht : ((pcH + 2 : Nat) : Int) + off = (pcE : Int)) :
    zLok X Y W0 ET cl ft G a (pcH, 77, i, a1, a2) pcE := by
  intro p l e R s m args below meth c Q D A ρ b ad0 k N hN hC hst hET hret he hX
  replace hN : zs_loop G i a1 a2 k = N := hN
  obtain ⟨ls0, st0, Sh, St, Sc, Ss⟩ := k
  unfold zs_loop at hN
  rw [hq] at hN
  cases g0 : z_get ls0 0 with
  | none => rw [g0] at hN; subst hN; cases st0 <;> exact trivial
  | some v0 =>
  cases g1 : z_get ls0 1 with
  | none => rw [g0, g1] at hN; subst hN; cases st0 <;> exact trivial
  | some v1 =>
  cases g2 : z_get ls0 2 with
  | none => rw [g0, g1, g2] at hN; subst hN; cases st0 <;> exact trivial
  | some v2 =>
  rw [g0, g1, g2] at hN
  cases st0 with
  | cons _ _ => subst hN; exact trivial
  | nil =>
    dsimp only at hN
    split at hN
    · rename_i hc
      simp only [Bool.and_eq_true] at hc
      obtain ⟨⟨⟨⟨⟨t1, t2⟩, t3⟩, t4⟩, t5⟩, t6⟩ := hc
      have t1 := z_eqvs_ok t1
      have t3 := z_eqh_ok t3
      have t4 := z_eqn_ok t4
      have t5 := Nat.eq_of_beq_eq_true t5
      have t6 := Nat.eq_of_beq_eq_true t6
      subst hqq
      dsimp only at t1 t3 t4 t5 t6 hN
      cases t1
      subst t3 t4 t5 t6 hN
      intro hF hL _ _ kk
      have hF : d + 2 ≤ R.frames := hF
      have hL : 64 * (d + 2) ≤ R.locals := hL
      have hbd : 2147483649 ≤ zu (ρ 1) ∧ zu (ρ 1) ≤ 2147484648 := by
        unfold z_mil at t2
        cases hr : z_rg G.2.2.2 (1, 1) with
        | none => rw [hr] at t2; cases t2
        | some u =>
          rw [hr] at t2
          simp only [Bool.and_eq_true] at t2
          obtain ⟨x, e1, e2, e3⟩ := zv_rg (b := 0) (ad := []) (v := (1, 1)) (w := .int (ρ 1)) he rfl hr
          have e1 : ρ 1 = x := Value.int.inj e1
          have b1 : z_31 < u.1 := Nat.le_of_ble_eq_true t2.1
          have b2 : u.2 ≤ 2147484648 := Nat.le_of_ble_eq_true t2.2
          unfold z_31 at b1
          rw [e1]
          omega
      obtain ⟨hx, hb, hml, hown, hts, hA, hlocks, hmn⟩ := id hC
      have e1 : ρ 1 = nI (zu (ρ 1) - 2147483648) := by
        apply zu_inj
        rw [zu_nI]
        unfold z_up z_31 z_32
        omega
      generalize hN0 : zu (ρ 1) - 2147483648 = M at e1
      have hM : 1 ≤ M ∧ M ≤ 1000 := by omega
      have claim : ∀ (r i : Nat), i + r = M → zgo p l e R s m args below meth c Q D cl A ft (z_rho ρ i) b (Y a).2.2.1 ad0 pcH (z_hole (1, 7) (z_L j) T St) := by
        intro r
        induction r with
        | zero =>
          intro i hi ws tys H locs ls lv st hP hD hK hS hw had hl hlv hst9
          have hi : i = M := hi
          subst hi
          match lv, hlv with
          | [(n0, w0), (n1, w1), (n2, w2)], hlv =>
            obtain ⟨⟨q0, u0⟩, ⟨q1, u1⟩, ⟨q2, u2⟩, -⟩ := hlv
            dsimp only at q0 q1 q2 u0 u1 u2
            subst q0 q1 q2
            have u1 : w1 = .int (ρ 1) := u1
            have u2 : w2 = .int (nI i) := u2
            rw [e1] at u1
            subst u1 u2
            match st, hst9 with
            | [], _ =>
              refine lv_iload_n hx hb dH rfl (lv_at hl 2 rfl) ?_
              refine lv_iload_n hx hb dH1 rfl (lv_at hl 1 rfl) ?_
              refine lv_icmp_ge hx hb dH2 ht (fun _ => ?_) (fun h => absurd (nI_le (Nat.le_refl i) (by omega)) h)
              have k2 := z_retime (ρ := z_rho ρ i) (ρ' := ρ) (x := (1, 7)) (y := (1, 1)) (ls0 := [(0, (6, j))]) (T := T) (t := St) (p := p) (l := l) (e := e) (R := R) (s := s) (m := m) (args := args) (below := below) (meth := meth) (c := c) (Q := Q) (D := D) (cl := cl) (A := A) (ft := ft) (b := b) (nL := (Y a).2.2.1) (ad0 := ad0) (pc := pcE) (fun k h7 h8 => (z_rho_ag k h7 h8).symm) (fun ad w h => by
                have h : w = .int (nI i) := h
                show w = .int (ρ 1)
                rw [h, e1]) kk
              exact k2 ws tys H locs ls [(0, w0)] [] hP hD hK hS hw had (lv_sub hl [0] rfl) ⟨⟨rfl, u0⟩, trivial⟩ trivial
        | succ r ih =>
          intro i hi ws tys H locs ls lv st hP hD hK hS hw had hl hlv hst9
          have hlv0 := hlv
          match lv, hlv with
          | [(n0, w0), (n1, w1), (n2, w2)], hlv =>
            obtain ⟨⟨q0, u0⟩, ⟨q1, u1⟩, ⟨q2, u2⟩, -⟩ := hlv
            dsimp only at q0 q1 q2 u0 u1 u2
            subst q0 q1 q2
            have u1 : w1 = .int (ρ 1) := u1
            have u2 : w2 = .int (nI i) := u2
            rw [e1] at u1
            subst u1 u2
            match st, hst9 with
            | [], hst9 =>
              refine lv_iload_n hx hb dH rfl (lv_at hl 2 rfl) ?_
              refine lv_iload_n hx hb dH1 rfl (lv_at hl 1 rfl) ?_
              refine lv_icmp_ge hx hb dH2 ht (fun h => absurd h (nI_ge (by omega) (by omega))) (fun _ => ?_)
              have hb1 := hB (z_rho ρ i) b (z_rho_e (ze_nil he) hbd.1 hbd.2 (by omega)) p l e R s m args below meth c D A ad0 (pcH + 5) Q hpB hC hst hET hret ⟨by omega, by omega, Nat.zero_le _, Nat.zero_le _⟩ (hXr s b A ρ _ (fun k h7 h8 => z_rho_ag k h7 h8) hX) (fun _ => ?_) (fun h5 => absurd rfl h5)
              · exact hb1 ws tys H locs ls _ [] hP hD hK hS hw had hl hlv0 trivial
              · refine z_pickL (l' := [(0, (6, j)), (1, (1, 1)), (2, (1, 8))]) (fun z hz => ?_) ?_
                · rcases List.mem_cons.mp hz with rfl | hz
                  · exact h8.1
                  · rcases List.mem_cons.mp hz with rfl | hz
                    · exact h8.2.1
                    · rcases List.mem_cons.mp hz with rfl | hz
                      · exact h8.2.2
                      · cases hz
                · exact z_retime (ρ := z_rho ρ i) (ρ' := z_rho ρ (i + 1)) (x := (1, 8)) (y := (1, 7)) (ls0 := z_L j) (T := T) (t := St) (fun k h7 h8 => (z_rho_ag k h7 h8).trans (z_rho_ag k h7 h8).symm) (fun ad w h => h) (ih (i + 1) (by omega))
      refine z_pickL (l' := [(0, (6, j)), (1, (1, 1)), (2, (0, 0))]) (fun z hz => ?_) ?_
      · rcases List.mem_cons.mp hz with rfl | hz
        · exact g0
        · rcases List.mem_cons.mp hz with rfl | hz
          · exact g1
          · rcases List.mem_cons.mp hz with rfl | hz
            · exact g2
            · cases hz
      · exact z_retime (ρ := ρ) (ρ' := z_rho ρ 0) (x := (0, 0)) (y := (1, 7)) (ls0 := z_L j) (T := T) (t := St) (fun k h7 h8 => z_rho_ag k h7 h8) (fun ad w h => h) (claim M 0 (by omega))
    · subst hN
      exact trivial
theorem zi_piece {a i d pcH cs ss n : Nat} {v0 : zV} {pr : Nat → Nat} {h : List (List zC)} {t : List Nat} {q : zSum} {frB : List zJ} {ls8 : Nat → zL} (hq : z_at G.1.2 i = some q) (hqq : q.1.2 = d ∧ q.2.1 = [v0, (0, pr 0), (0, 0), (cs, ss)] ∧ q.2.2.1 = h ∧ q.2.2.2.1 = t)
    (hB : ∀ j : Nat, j < n → ∀ (ρ : Nat → Int32) (b : Nat), ze ρ [] → zbody X QF Y W0 ET cl ft ρ b a d frB ([(0, v0), (1, (0, pr j)), (2, (0, j))], [], (h, t, cs, ss)) (5, (pcH, 0), (ls8 j, [], (h, t, cs, ss))))
    (h8 : ∀ j : Nat, j < n → z_get (ls8 j) 0 = some v0 ∧ z_get (ls8 j) 1 = some (0, pr (j + 1)) ∧ z_get (ls8 j) 2 = some (0, j + 1)) (hpB : zpc frB pcH) :
    zLok X Y W0 ET cl ft G a (pcH, 80, i, pr n, n) pcH := by
  intro p l e R s m args below meth c Q D A ρ b ad0 k N hN hC hst hET hret he hX
  replace hN : zs_piece G i (pr n) n k = N := hN
  obtain ⟨ls0, st0, Sh, St, Sc, Ss⟩ := k
  unfold zs_piece at hN
  rw [hq] at hN
  cases g0 : z_get ls0 0 with
  | none => rw [g0] at hN; subst hN; cases st0 <;> exact trivial
  | some w0 =>
  cases g1 : z_get ls0 1 with
  | none => rw [g0, g1] at hN; subst hN; cases st0 <;> exact trivial
  | some w1 =>
  cases g2 : z_get ls0 2 with
  | none => rw [g0, g1, g2] at hN; subst hN; cases st0 <;> exact trivial
  | some w2 =>
  rw [g0, g1, g2] at hN
  cases st0 with
  | cons _ _ => subst hN; exact trivial
  | nil =>
    dsimp only at hN
    split at hN
    · rename_i hc
      simp only [Bool.and_eq_true] at hc
      obtain ⟨⟨t1, t3⟩, t4⟩ := hc
      have t1 := z_eqvs_ok t1
      have t3 := z_eqh_ok t3
      have t4 := z_eqn_ok t4
      obtain ⟨e1, e2, e3, e4⟩ := hqq
      rw [e2] at t1
      rw [e3] at t3
      rw [e4] at t4
      cases t1
      subst t3 t4 hN
      intro hF hL hc1 hc2 kk
      have hcells : cs ≤ R.cells ∧ ss ≤ R.slots := ⟨hc1, hc2⟩
      have hF : q.1.2 + 2 ≤ R.frames := hF
      have hL : 64 * (q.1.2 + 2) ≤ R.locals := hL
      rw [e1] at hF hL
      have claim : ∀ (r j : Nat), j + r = n → zgo p l e R s m args below meth c Q D cl A ft ρ b (Y a).2.2.1 ad0 pcH ([(0, v0), (1, (0, pr j)), (2, (0, j))], [], (Sh, St, cs, ss)) := by
        intro r
        induction r with
        | zero =>
          intro j hj
          have hj : j = n := hj
          subst hj
          exact kk
        | succ r ih =>
          intro j hj
          refine hB j (by omega) ρ b (ze_nil he) p l e R s m args below meth c D A ad0 pcH Q hpB hC hst hET hret ⟨by omega, by omega, hcells.1, hcells.2⟩ hX (fun _ => ?_) (fun h5 => absurd rfl h5)
          obtain ⟨q0, q1, q2⟩ := h8 j (by omega)
          refine z_pickL (l' := [(0, v0), (1, (0, pr (j + 1))), (2, (0, j + 1))]) (fun z hz => ?_) (ih (j + 1) (by omega))
          rcases List.mem_cons.mp hz with rfl | hz
          · exact q0
          · rcases List.mem_cons.mp hz with rfl | hz
            · exact q1
            · rcases List.mem_cons.mp hz with rfl | hz
              · exact q2
              · cases hz
      refine z_pickL (l' := [(0, v0), (1, (0, pr 0)), (2, (0, 0))]) (fun z hz => ?_) (claim n 0 (by omega))
      rcases List.mem_cons.mp hz with rfl | hz
      · exact g0
      · rcases List.mem_cons.mp hz with rfl | hz
        · exact g1
        · rcases List.mem_cons.mp hz with rfl | hz
          · exact g2
          · cases hz
    · subst hN
      exact trivial
theorem zi_piece1 {a i d pcH cs ss n a2 : Nat} {v0 : zV} {h : List (List zC)} {t : List Nat} {q : zSum} {frB : List zJ} {ls8 : Nat → zL} (hq : z_at G.1.2 i = some q) (hqq : q.1.2 = d ∧ q.2.1 = [v0, (0, 0), (cs, ss)] ∧ q.2.2.1 = h ∧ q.2.2.2.1 = t)
    (hB : ∀ j : Nat, j < n → ∀ (ρ : Nat → Int32) (b : Nat), ze ρ [] → zbody X QF Y W0 ET cl ft ρ b a d frB ([(0, v0), (1, (0, j))], [], (h, t, cs, ss)) (5, (pcH, 0), (ls8 j, [], (h, t, cs, ss))))
    (h8 : ∀ j : Nat, j < n → z_get (ls8 j) 0 = some v0 ∧ z_get (ls8 j) 1 = some (0, j + 1)) (hpB : zpc frB pcH) :
    zLok X Y W0 ET cl ft G a (pcH, 81, i, n, a2) pcH := by
  intro p l e R s m args below meth c Q D A ρ b ad0 k N hN hC hst hET hret he hX
  replace hN : zs_piece1 G i n a2 k = N := hN
  obtain ⟨ls0, st0, Sh, St, Sc, Ss⟩ := k
  unfold zs_piece1 at hN
  rw [hq] at hN
  cases g0 : z_get ls0 0 with
  | none => rw [g0] at hN; subst hN; cases st0 <;> exact trivial
  | some w0 =>
  cases g1 : z_get ls0 1 with
  | none => rw [g0, g1] at hN; subst hN; cases st0 <;> exact trivial
  | some w1 =>
  rw [g0, g1] at hN
  cases st0 with
  | cons _ _ => subst hN; exact trivial
  | nil =>
    dsimp only at hN
    split at hN
    · rename_i hc
      simp only [Bool.and_eq_true] at hc
      obtain ⟨⟨t1, t3⟩, t4⟩ := hc
      have t1 := z_eqvs_ok t1
      have t3 := z_eqh_ok t3
      have t4 := z_eqn_ok t4
      obtain ⟨e1, e2, e3, e4⟩ := hqq
      rw [e2] at t1
      rw [e3] at t3
      rw [e4] at t4
      cases t1
      subst t3 t4 hN
      intro hF hL hc1 hc2 kk
      have hcells : cs ≤ R.cells ∧ ss ≤ R.slots := ⟨hc1, hc2⟩
      have hF : q.1.2 + 2 ≤ R.frames := hF
      have hL : 64 * (q.1.2 + 2) ≤ R.locals := hL
      rw [e1] at hF hL
      have claim : ∀ (r j : Nat), j + r = n → zgo p l e R s m args below meth c Q D cl A ft ρ b (Y a).2.2.1 ad0 pcH ([(0, v0), (1, (0, j))], [], (Sh, St, cs, ss)) := by
        intro r
        induction r with
        | zero =>
          intro j hj
          have hj : j = n := hj
          subst hj
          exact kk
        | succ r ih =>
          intro j hj
          refine hB j (by omega) ρ b (ze_nil he) p l e R s m args below meth c D A ad0 pcH Q hpB hC hst hET hret ⟨by omega, by omega, hcells.1, hcells.2⟩ hX (fun _ => ?_) (fun h5 => absurd rfl h5)
          obtain ⟨q0, q1⟩ := h8 j (by omega)
          refine z_pickL (l' := [(0, v0), (1, (0, j + 1))]) (fun z hz => ?_) (ih (j + 1) (by omega))
          rcases List.mem_cons.mp hz with rfl | hz
          · exact q0
          · rcases List.mem_cons.mp hz with rfl | hz
            · exact q1
            · cases hz
      refine z_pickL (l' := [(0, v0), (1, (0, 0))]) (fun z hz => ?_) (claim n 0 (by omega))
      rcases List.mem_cons.mp hz with rfl | hz
      · exact g0
      · rcases List.mem_cons.mp hz with rfl | hz
        · exact g1
        · cases hz
    · subst hN
      exact trivial
end ZLO
