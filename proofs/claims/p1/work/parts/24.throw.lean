/-! THROWS AT A SITE -/
/-- the rows of a method's table, as the abstract one has them -/
def zEok (own : String) (Ws : List Cond) (EX : Nat → String) (me : zP) : List zE → List ExceptionTableEntry → Prop
  | [], [] => True
  | q :: r, x :: rs => (x.startPc = q.1 ∧ x.endPc = q.2.1 ∧ x.catchType ≠ 0 ∧ q.2.2.2 < 3 ∧ Cond.classLink own x.catchType (EX q.2.2.2) ∈ Ws ∧ ∀ (y : zJ) (t : List zJ), z_drop me.1 q.2.2.1 = y :: t → y.1 = x.handlerPc) ∧ zEok own Ws EX me r rs
  | _, _ => False
/-- the three kinds of exception are apart -/
def zNC (X : State → Nat → (Nat → Prop) → (Nat → Int32) → Prop) (EX : Nat → String) : Prop := ∀ (s : State) (b : Nat) (A : Nat → Prop) (ρ : Nat → Int32), X s b A ρ → ∀ i j : Nat, i < 3 → j < 3 → i ≠ j → va_Nc (EX i) (EX j) s
theorem zE_find {own : String} {Ws : List Cond} {EX : Nat → String} {me : zP} {pl : Platform} {s : State} {args : Array Value} {d thrown : ClassId} {pc i q : Nat} {y : zJ} {t : List zJ} (hpl : pl.magicAccessors = ({} : Platform).magicAccessors) (hts : ∀ w ∈ Ws, w.before args s = true) (hown : s.vm.findClass own = some d)
    (hN : ∀ i j : Nat, i < 3 → j < 3 → i ≠ j → va_Nc (EX i) (EX j) s) (hi : i < 3) (hcl : s.vm.findClass (EX i) = some thrown) (hy : z_drop me.1 q = y :: t) :
    ∀ (rows : List zE) (rs : List ExceptionTableEntry), zEok own Ws EX me rows rs → z_handler rows pc i = some q → zh_ok pl s d pc thrown y.1 rs
  | [], _, _, h => by cases h
  | _ :: _, [], he, _ => he.elim
  | r0 :: rows, x :: rs, he, h => by
    obtain ⟨⟨h1, h2, h3, h4, h5, h6⟩, he⟩ := he
    obtain ⟨f, u, hh, k⟩ := r0
    dsimp only at h1 h2 h4 h5 h6
    have h : (if Nat.ble f pc && Nat.blt pc u && Nat.beq i k then some hh else z_handler rows pc i) = some q := h
    have hcov : covers x pc = (Nat.ble f pc && Nat.blt pc u) := by
      show (decide (x.startPc ≤ pc) && decide (pc < x.endPc)) = _
      rw [h1, h2]
      have e1 : decide (f ≤ pc) = Nat.ble f pc := by
        by_cases hf : f ≤ pc
        · rw [decide_eq_true hf, Nat.ble_eq_true_of_le hf]
        · rw [decide_eq_false hf]
          exact (Bool.eq_false_iff.mpr (fun z => hf (Nat.le_of_ble_eq_true z))).symm
      have e2 : decide (pc < u) = Nat.blt pc u := by
        by_cases hf : pc < u
        · rw [decide_eq_true hf]
          exact (Nat.ble_eq_true_of_le hf).symm
        · rw [decide_eq_false hf]
          exact (Bool.eq_false_iff.mpr (fun z => hf (Nat.le_of_ble_eq_true z))).symm
      rw [e1, e2]
    cases hc : (Nat.ble f pc && Nat.blt pc u) with
    | false =>
      rw [hc] at h
      exact Or.inl ⟨hcov.trans hc, zE_find hpl hts hown hN hi hcl hy rows rs he h⟩
    | true =>
      rw [hc] at h
      obtain ⟨c9, hc9, hl9⟩ := Cond.classLink_spec hown (hts _ h5) pl hpl
      refine Or.inr ⟨hcov.trans hc, h3, c9, hl9, ?_⟩
      by_cases hik : i = k
      · subst hik
        have hb : Nat.beq i i = true := Nat.beq_refl i
        rw [hb] at h
        have h : some hh = some q := h
        cases h
        cases hc9.symm.trans hcl
        exact Or.inl ⟨va_asg _ _, (h6 y t hy).symm⟩
      · have hb : Nat.beq i k = false := Bool.eq_false_iff.mpr (fun z => hik (Nat.eq_of_beq_eq_true z))
        rw [hb] at h
        obtain ⟨c1, c2, g1, g2, g3⟩ := hN i k hi h4 hik
        cases g1.symm.trans hcl
        cases g2.symm.trans hc9
        exact Or.inr ⟨g3, zE_find hpl hts hown hN hi hcl hy rows rs he h⟩
theorem zE_nil {own : String} {Ws : List Cond} {EX : Nat → String} {me : zP} {rs : List ExceptionTableEntry} (h : zEok own Ws EX me [] rs) : rs = [] := by
  cases rs with
  | nil => rfl
  | cons _ _ => exact h.elim
section ZTH
variable {p : Program} {l : Launch} {e : Env} {R : Room} {s : State} {m : MethodId} {args : Array Value} {below : List Frame} {meth : Method} {c : Code} {D : va_G} {cl : List vw_C} {A : Nat → Prop} {ft : List FieldType} {ρ : Nat → Int32} {b nL : Nat} {EX : Nat → String}
variable {pc : Nat} {own : String} {Ws : List Cond} {me : zP} {as st : List zV} {ls0 : zL} {S : zS} {o : zR}
/-- the row of a call that throws as o says -/
abbrev z_thrRow (EX : Nat → String) (p : Program) (l : Launch) (e : Env) (R : Room) (s : State) (m : MethodId) (args : Array Value) (below : List Frame) (meth : Method) (c : Code) (D : va_G) (cl : List vw_C) (A : Nat → Prop) (ft : List FieldType) (ρ : Nat → Int32) (b nL pc : Nat) (as st : List zV) (S : zS) (o : zR) : Prop :=
  ∀ (ws : va_W) (tys : List (ClassId × FieldType)) (H : Heap) (locs : List Loc) (ls : Array Slot) (vs rest : List Value), va_P D cl ws H → va_D A ws → va_K D cl tys s → va_S A s.heap H locs → zw ft ρ b S ws tys → ls.size = nL → zl (zv ρ b (ws.map (fun q => q.1))) as vs → zl (zv ρ b (ws.map (fun q => q.1))) st rest →
    ∃ a : Array Value, vx_Run p l e R s m args below meth c H locs S.2.2.1 S.2.2.2 o.2.2.2.2.2.2.1 o.2.2.2.2.2.2.2 (F0 m pc ls (vs.reverse ++ rest)) rest (z_none a) (zXC EX D cl ft ρ b (va_A ws H.size) (ws.map (fun q => q.1)) o) (va_A ws H.size)
/-- from the callee's throw to what comes then -/
theorem zk_thr {Q : State → Prop} {ad0 : List Nat} (hA : ∀ q, s.heap.size ≤ q → A q) (hr : z_thrRow EX p l e R s m args below meth c D cl A ft ρ b nL pc as st S o)
    (kk : ∀ (ws : va_W) (tys : List (ClassId × FieldType)) (H : Heap) (locs : List Loc) (ls : Array Slot) (lv : List (Nat × Value)) (rest : List Value) (q : Addr) (ce : Cell), va_P D cl ws H → va_D A ws → va_K D cl tys s → va_S A s.heap H locs → zw ft ρ b (z_grow S o.2.2.2.2) ws tys → (∀ i a : Nat, ad0[i]? = some a → (ws.map (fun q => q.1))[i]? = some a) → lv_has ls nL lv →
      zl (fun x y => x.1 = y.1 ∧ zv ρ b (ws.map (fun q => q.1)) x.2 y.2) ls0 lv → o.2.1.1 < 3 → H[q]? = some ce → ce.vm = .none → s.vm.findClass (EX o.2.1.1) = some ce.cls → vx_W p l e R s m args below meth c H locs (S.2.2.1 + o.2.2.2.2.2.2.1) (S.2.2.2 + o.2.2.2.2.2.2.2) Q (F0 m pc ls rest) q) :
    zgo p l e R s m args below meth c Q D cl A ft ρ b nL ad0 pc (ls0, as.reverse ++ st, S) := by
  intro ws tys H locs ls lv st9 hP hD hK hS hw had hl hlv hst
  obtain ⟨vr, rest, e1, g1, g2⟩ := zl_app hst
  have g3 := zl_rev g1
  rw [List.reverse_reverse] at g3
  obtain ⟨a9, hrun⟩ := hr ws tys H locs ls vr.reverse rest hP hD hK hS hw hl.1 g3 g2
  rw [List.reverse_reverse, ← e1] at hrun
  intro T hT X
  rcases hrun T hT X with ⟨v, st₀, t, T', L, h0, X', hL, f1, f2, hq, stp⟩ | ⟨q, st₀, t, T', L, E, ce, h0, X', hL, f1, f2, hq, hce, hcv, hcl, stp⟩
  · exact hq.elim
  · obtain ⟨⟨hE, hE3⟩, ws1, tys1, hP1, hK1, hD1, hw1, had1, hz, hk⟩ := hq
    rw [h0] at hz hk
    have hin := z_inA' (s := s) hD hS hA
    have hS1 : va_S A s.heap T'.heap (locs ++ L) := ⟨Nat.le_trans hS.1 (by rw [f1]; exact hz), fun q h1 h2 => by rw [f1, hk q (Nat.lt_of_lt_of_le h1 hS.1) (fun z => h2 (hin q z))]; exact hS.2.1 q h1 h2, fun q hq => by
      rcases List.mem_append.mp hq with h | h
      · exact hS.2.2 q h
      · exact hin _ (hL q h)⟩
    have hK2 : va_K D cl tys1 s := va_K.moved (by rw [← f2]; exact X'.warmed.alike.symm) hK1
    have hP2 : va_P D cl ws1 T'.heap := by rw [f1]; exact hP1
    have hD2 : va_D A ws1 := hD1.weaken (fun k q _ h => hin q.1 h)
    subst hE
    obtain ⟨t2, a1, b1⟩ := kk ws1 tys1 T'.heap (locs ++ L) ls lv rest q ce hP2 hD2 hK2 hS1 hw1 (fun i a h => had1 i a (had i a h)) hl (zl_moreL had1 hlv) hE3 (by rw [f1]; exact hce) hcv hcl T' rfl X'
    exact ⟨t2, stp.trans a1, b1⟩
/-- caught, or out -/
theorem zk_thrown {X : State → Nat → (Nat → Prop) → (Nat → Int32) → Prop} {ET : List ExceptionTableEntry} {mn : String} {cc : ByteArray} (hC : zctx p s m args meth c own mn cc nL A Ws) (hE : c.exceptionTable.toList = ET) (hEo : zEok own Ws EX me me.2.1 ET) (hN : zNC X EX) (hX : X s b A ρ) (ho : o.1 = 3) (hr : z_thrRow EX p l e R s m args below meth c D cl A ft ρ b nL pc as st S o) :
    (∀ (q : Nat) (y : zJ) (r : List zJ), z_handler me.2.1 pc o.2.1.1 = some q → z_drop me.1 q = y :: r → ∀ (Q : State → Prop) (ad0 : List Nat), zgo p l e R s m args below meth c Q D cl A ft ρ b nL ad0 y.1 (ls0, [(7, 0)], z_grow S o.2.2.2.2) → zgo p l e R s m args below meth c Q D cl A ft ρ b nL ad0 pc (ls0, as.reverse ++ st, S)) ∧
      (me.2.1 = [] → ∀ ad0 : List Nat, zgo p l e R s m args below meth c (z_QF EX cl ft ρ b below D A ad0 args s (3, o.2.1, [], [], z_grow S o.2.2.2.2)) D cl A ft ρ b nL ad0 pc (ls0, as.reverse ++ st, S)) := by
  obtain ⟨hx, hb, hml, hown, hts, hA, hlocks, hmn⟩ := hC
  refine ⟨fun q y r hq hy Q ad0 kk => ?_, fun hnil ad0 => ?_⟩
  · refine zk_thr hA hr (fun ws tys H locs ls lv rest q9 ce hP hD hK hS hw had hl hlv h3 hce hcv hcl => ?_)
    refine zh_catch hce hcv hcl (fun pl hpl => by rw [hE]; exact zE_find hpl hts hown (hN s b A ρ hX) h3 hcl hy _ _ hEo hq) ?_
    exact kk ws tys H locs ls lv [.ref q9] hP hD hK hS hw had hl hlv ⟨⟨q9, rfl⟩, trivial⟩
  · refine zk_thr hA hr (fun ws tys H locs ls lv rest q9 ce hP hD hK hS hw had hl hlv h3 hce hcv hcl => ?_)
    rw [hnil] at hEo
    have hemp : c.exceptionTable.toList = [] := hE.trans (zE_nil hEo)
    refine vx_out (E := EX o.2.1.1) (fun x hx9 => by rw [hemp] at hx9; cases hx9) hlocks hce hcv hcl (fun t ht hal => ⟨⟨rfl, h3⟩, ws, tys, by rw [ht]; exact hP, va_K.moved hal hK, hD, hw, had, hS.F ht⟩) hS.2.2 (Nat.le_refl _) (Nat.le_refl _)
end ZTH
