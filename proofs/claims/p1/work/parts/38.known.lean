/-! WHAT IS KNOWN AT EVERY METHOD'S START -/
theorem z_overI {args : Array Value} {first s : State} {o : Option Outcome} {idx : List Nat} {t : FieldType} (h : (Cond.arrayOver (.array t)).holds args first o s idx = true) :
    ∃ comp c k, s.vm.findClass (FieldType.array t).toString = some comp ∧ (s.vm.classes.findIdx? fun (x : Class) => match x.kind with | .array component _ => component == comp | _ => false) = some c ∧ s.vm.classes[c]? = some k ∧ k.kind = .array comp (.array t) ∧ s.vm.findClass ("[" ++ (FieldType.array t).toString) = some c := by
  simp only [Cond.holds, Cond.value, beq_iff_eq] at h
  cases hc : s.vm.findClass (FieldType.array t).toString with
  | none => simp [hc] at h
  | some comp =>
    simp only [hc, Option.bind_some, Option.bind_eq_some_iff, Option.map_eq_some_iff] at h
    obtain ⟨c, hi, k, hk, hb⟩ := h
    have hp := (Array.findIdx?_eq_some_iff_getElem.mp hi).2.1
    rw [(Array.getElem?_eq_some_iff.mp hk).2] at hp
    cases hq : k.kind with
    | array component ty =>
      rw [hq] at hb hp
      simp at hb hp
      exact ⟨comp, c, k, rfl, hi, hk, by rw [hq, hp, hb.1], hb.2⟩
    | _ => rw [hq] at hb; simp at hb
theorem z_AOmoved {t : FieldType} {u U : State} (hvm : u.vm.Alike U.vm) (h : va_Nw (.arrayOver (.array t)) u) : va_Nw (.arrayOver (.array t)) U := by
  obtain ⟨comp, c, k, h1, h2, h3, h4, h5⟩ := z_overI h
  obtain ⟨k', hk', he⟩ := hvm.2.2 _ _ h3
  have hi : (U.vm.classes.findIdx? fun (x : Class) => match x.kind with | .array component _ => component == comp | _ => false) = some c := by
    have e1 := va_idx_bare U.vm comp
    have e2 := va_idx_bare u.vm comp
    first | rw [hvm.bare_eq] at e1 | rw [← hvm.bare_eq] at e1
    exact (e1.symm.trans e2).trans h2
  have hkind : k'.kind = .array comp (.array t) := by rw [he]; exact h4
  have f1 : U.vm.findClass (FieldType.array t).toString = some comp := by rw [hvm.findClass]; exact h1
  have f2 : U.vm.findClass ("[" ++ (FieldType.array t).toString) = some c := by rw [hvm.findClass]; exact h5
  unfold va_Nw Cond.before Cond.holds
  simp only [Cond.value]
  rw [f1, Option.bind_some]
  refine (congrArg (fun o : Option Nat => (o.bind (fun c => (U.vm.classes[c]?).map fun (k : Class) => match k.kind with | .array _ ty => decide (ty = FieldType.array t) && decide (U.vm.findClass ("[" ++ (FieldType.array t).toString) = some c) | _ => false) == some true)) hi).trans ?_
  simp [hk', hkind, f2]
theorem z_Nw {w : Cond} (hw : z_nw w = true) {s U : State} (hW : s.WarmedH U.vm) (h : va_Nw w s) : va_Nw w U := by
  cases w with
  | methodLinkNest a i x b => exact va_Nw.warmM hW h
  | fieldLinkNest a i b n d x => exact va_Nw.warmF hW h
  | castable C T => exact va_Nw.warmC hW h
  | declares x => exact va_Nw.warmD hW h
  | arrayOver ty =>
    cases ty with
    | object C => exact va_AO.moved hW.alike h
    | array t => exact z_AOmoved hW.alike h
    | _ => simp [va_Nw, Cond.before, Cond.holds, Cond.value] at h
  | _ => cases hw
theorem z_NwS {w : Cond} (hw : z_nw w = true) {s U : State} (hvm : s.vm = U.vm) (h : va_Nw w s) : va_Nw w U := by
  cases w with
  | methodLinkNest a i x b => exact va_Nw.same rfl hvm h
  | fieldLinkNest a i b n d x => exact va_Nw.same rfl hvm h
  | castable C T => exact va_Nw.same rfl hvm h
  | declares x => exact va_Nw.same rfl hvm h
  | arrayOver ty =>
    cases ty with
    | object C => exact va_AO.moved (by rw [hvm]; exact Vm.Alike.refl _) h
    | array t => exact z_AOmoved (by rw [hvm]; exact Vm.Alike.refl _) h
    | _ => simp [va_Nw, Cond.before, Cond.holds, Cond.value] at h
  | _ => cases hw
theorem z_Nuse {w : Cond} (hw : z_nw w = true) {s : State} {args : Array Value} (h : va_Nw w s) : w.before args s = true := by
  cases w with
  | methodLinkNest a i x b => exact va_Nw.use rfl h
  | fieldLinkNest a i b n d x => exact va_Nw.use rfl h
  | castable C T => exact va_Nw.use rfl h
  | declares x => exact va_Nw.use rfl h
  | arrayOver ty => exact h
  | _ => cases hw
theorem z_Nof {w : Cond} (hw : z_nw w = true) {s : State} {args : Array Value} (h : w.before args s = true) : va_Nw w s := by
  cases w with
  | methodLinkNest a i x b => exact va_Nw.of rfl h
  | fieldLinkNest a i b n d x => exact va_Nw.of rfl h
  | castable C T => exact va_Nw.of rfl h
  | declares x => exact va_Nw.of rfl h
  | arrayOver ty => exact h
  | _ => cases hw
def zEX (i : Nat) : String := match i with
  | 0 => "java/lang/IllegalStateException"
  | 1 => "java/lang/IllegalArgumentException"
  | _ => "java/util/NoSuchElementException"
/-- the script, two things of the library, the three exceptions, the words beside the others -/
def zX (s : State) (b : Nat) (A : Nat → Prop) (ρ : Nat → Int32) : Prop :=
  (va_X b (ρ 9).toNatClampNeg ρ s s.heap ∧ (ρ 9).toNatClampNeg ≤ 6 ∧ ρ 9 = nI (ρ 9).toNatClampNeg) ∧ b < s.heap.size ∧ ¬ A b ∧ (vx_Zq Bundle.tN "UNASSIGNED_STACK" Bundle.steD A s s.heap ∧ vx_Zq Bundle.tN "SUPPRESSED_SENTINEL" Bundle.listD A s s.heap) ∧
    (∀ i j : Nat, i < 3 → j < 3 → i ≠ j → va_Nc (zEX i) (zEX j) s) ∧ ∀ w ∈ zN0, va_Nw w s
theorem zn_nw {w : Cond} (h : w ∈ zN0) : z_nw w = true := (List.mem_filter.mp h).2
theorem zX_ok : zXok zX := by
  refine ⟨fun s U b A A1 ρ h hq hA hW => ?_, fun U b A ρ g mk a h => ?_⟩
  · obtain ⟨⟨h1, hl⟩, h2, h3, ⟨h4, h5⟩, h6, h7⟩ := h
    have hb : U.heap[b]? = s.heap[b]? := hq b h2 h3
    have hbl : b < U.heap.size := by
      obtain ⟨scr, g1, -⟩ := id h1
      rw [g1] at hb
      exact (Array.getElem?_eq_some_iff.mp hb).1
    exact ⟨⟨va_X.moved hW.alike (va_X.kept h1 hb), hl⟩, hbl, fun z => h3 (hA b z), ⟨vx_Zq.moved hW.alike (vx_Zq.narrow (vx_Zq.kept h4 hq) hA), vx_Zq.moved hW.alike (vx_Zq.narrow (vx_Zq.kept h5 hq) hA)⟩, fun i j hi hj hij => va_Nc.moved hW.alike (h6 i j hi hj hij), fun w hw => z_Nw (zn_nw hw) hW (h7 w hw)⟩
  · obtain ⟨⟨h1, hl⟩, h2, h3, ⟨h4, h5⟩, h6, h7⟩ := h
    have hal : U.vm.Alike (U.calling g mk a).vm := Vm.Alike.refl U.vm
    exact ⟨⟨va_X.moved hal h1, hl⟩, h2, h3, ⟨vx_Zq.moved hal h4, vx_Zq.moved hal h5⟩, fun i j hi hj hij => va_Nc.moved hal (h6 i j hi hj hij), fun w hw => z_NwS (s := U) (zn_nw hw) rfl (h7 w hw)⟩
theorem zUS_ok : zUS zX := fun _ _ _ _ h => h.2.2.2.1
theorem zNC_ok : zNC zX zEX := fun _ _ _ _ h => h.2.2.2.2.1
theorem zNok_ok : zNok zX zN0 := fun _ _ _ _ _ h w hw => z_Nuse (zn_nw hw) (h.2.2.2.2.2 w hw)
theorem zXr_ok : zXr zX := by
  intro s b A ρ ρ' hag h
  obtain ⟨⟨⟨scr, g1, g2, g3, g4, g5⟩, hL⟩, h2⟩ := h
  have hL6 := hL.1
  have e9 : ρ' 9 = ρ 9 := hag 9 (by decide) (by decide)
  refine ⟨⟨⟨scr, g1, g2, g3, by rw [e9]; exact g4, fun j hj => ?_⟩, by rw [e9]; exact hL⟩, h2⟩
  rw [e9] at hj
  rw [hag j (by omega) (by omega)]
  exact g5 j hj
section ZKN
variable {own mn : String} {cc : ByteArray} {nL : Nat} {W0 : List Cond} {cl : List vw_C} {ft : List FieldType} {G : zG} {me : zP} {pc : Nat}
theorem zscr_ok (hd : decode cc pc = .ok (.iaload, 1)) : zScr zX own mn cc nL W0 cl ft G me pc := by
  intro p l e R s m args below meth c Q D A ρ b ad0 ls0 S st0 x y h8 hx hb hA he hX
  cases hy : z_kn G.2.2.2 y with
  | none => exact trivial
  | some j =>
    cases hn : z_kn G.2.2.2 (1, 9) with
    | none => exact trivial
    | some n =>
      dsimp only
      split
      · rename_i ht
        simp only [Bool.and_eq_true] at ht
        intro _ _ kk ws tys H locs ls lv st hP hD hK hS hw had hl hlv hst
        match st, hst with
        | wy :: wx :: st, hst =>
          have ey := zv_kn he hst.1 hy
          subst ey
          obtain ⟨x1, x2⟩ := x
          have h8 := Nat.eq_of_beq_eq_true h8
          dsimp only at h8
          subst h8
          have ex : wx = .ref b := hst.2.1
          subst ex
          have e9 : Value.int (ρ 9) = .int (nI n) := zv_kn (b := b) (ad := []) (v := (1, 9)) he rfl hn
          have e9 : ρ 9 = nI n := Value.int.inj e9
          have hn100 : n < 100 := Nat.le_of_ble_eq_true ht.2
          have hjn : j < n := Nat.le_of_ble_eq_true ht.1.2
          have hcl : (ρ 9).toNatClampNeg = n := by rw [e9]; exact nI_clamp (by omega)
          obtain ⟨⟨hXs, -⟩, hbl, hbA, -⟩ := hX
          refine va_sld hx hb hXs hbl hbA hS (i := nI j) (by rw [hcl]; exact nI_in hjn (by omega)) hd ?_
          rw [nI_clamp (by omega)]
          exact kk ws tys H locs ls lv _ hP hD hK hS hw had hl hlv ⟨rfl, hst.2.2⟩
      · exact trivial
theorem zslen_ok (hd : decode cc pc = .ok (.arraylength, 1)) : ∀ (p : Program) (l : Launch) (e : Env) (R : Room) (s : State) (m : MethodId) (args : Array Value) (below : List Frame) (meth : Method) (c : Code) (Q : State → Prop) (D : va_G) (A : Nat → Prop) (ρ : Nat → Int32) (b : Nat) (ad0 : List Nat) (ls0 : zL) (S : zS) (st0 : List zV) (x : zV), Nat.beq x.1 8 = true → p.tables.exec = Jvm.exec → c.code = cc → (∀ q, s.heap.size ≤ q → A q) → zX s b A ρ → zgo p l e R s m args below meth c Q D cl A ft ρ b nL ad0 (pc + 1) (ls0, (1, 9) :: st0, S) → zgo p l e R s m args below meth c Q D cl A ft ρ b nL ad0 pc (ls0, x :: st0, S) := by
  intro p l e R s m args below meth c Q D A ρ b ad0 ls0 S st0 x h8 hx hb hA hX kk ws tys H locs ls lv st hP hD hK hS hw had hl hlv hst
  match st, hst with
  | wx :: st, hst =>
    obtain ⟨x1, x2⟩ := x
    have h8 := Nat.eq_of_beq_eq_true h8
    dsimp only at h8
    subst h8
    have ex : wx = .ref b := hst.1
    subst ex
    obtain ⟨⟨hXs, hL⟩, hbl, hbA, -⟩ := hX
    refine va_slen hx hb hXs hbl hbA hS hd ?_
    exact kk ws tys H locs ls lv _ hP hD hK hS hw had hl hlv ⟨congrArg Value.int hL.2.symm, hst.2⟩
theorem zi_none {a a1 a2 n : Nat} : zIok zX own mn cc nL W0 cl ft G me (pc, 99, a, a1, a2) n := fun _ _ _ _ _ _ _ _ _ _ _ _ _ _ _ _ _ _ _ _ _ _ => trivial
end ZKN
