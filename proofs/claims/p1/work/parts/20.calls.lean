/-! METHODS AND THEIR CALLS -/
/-- a method: its name, code, number of locals, what it returns -/
abbrev zY : Type := MethodName × ByteArray × Nat × Option FieldType
def z_ws (T0 : List Cond) (y : zY) : List Cond := Cond.code y.1 y.2.1 y.2.2.1 y.2.2.2 :: T0
def z_rm (d : Nat) (o : zR) : Room := { frames := d + 1, cells := o.2.2.2.2.2.2.1, slots := o.2.2.2.2.2.2.2, locals := 64 * (d + 1) }
/-- what stands at a method's start -/
def z_B (X : State → Nat → (Nat → Prop) → (Nat → Int32) → Prop) (D : va_G) (cl : List vw_C) (ρ : Nat → Int32) (b : Nat) (ws : va_W) (tys : List (ClassId × FieldType)) (n : Nat) : State → Prop := fun U =>
  U.heap.size = n ∧ va_P D cl ws U.heap ∧ va_K D cl tys U ∧ X U b (va_A ws n) ρ
/-- a method does what the abstract one does -/
def zMet (X : State → Nat → (Nat → Prop) → (Nat → Int32) → Prop) (wl : List Cond) (cl : List vw_C) (ft : List FieldType) (ρ : Nat → Int32) (b d : Nat) (y : zY) (as : List zV) (S : zS) (o : zR) : Prop :=
  ∀ (l : Launch) (D : va_G) (ws : va_W) (tys : List (ClassId × FieldType)) (n : Nat) (vs : List Value), l.stackTraces = false → va_D (fun _ => True) ws → zw ft ρ b S ws tys → zl (zv ρ b (ws.map (fun q => q.1))) as vs →
    Met l y.1 wl (z_rm d o) (va_Pc vs (z_B X D cl ρ b ws tys n)) (fun _ => zQ D cl ft ρ b (va_A ws n) (ws.map (fun q => q.1)) o) o.2.2.2.2.2.2.1 o.2.2.2.2.2.2.2 (va_A ws n)
/-- what is known of a start stays known, in the callee too -/
def zXok (X : State → Nat → (Nat → Prop) → (Nat → Int32) → Prop) : Prop :=
  (∀ (s U : State) (b : Nat) (A A1 : Nat → Prop) (ρ : Nat → Int32), X s b A ρ → (∀ q : Nat, q < s.heap.size → ¬ A q → U.heap[q]? = s.heap[q]?) → (∀ q, A1 q → A q) → s.WarmedH U.vm → X U b A1 ρ) ∧
  ∀ (U : State) (b : Nat) (A : Nat → Prop) (ρ : Nat → Int32) (g : JFrame) (mk : MethodId) (a : Array Value), X U b A ρ → X (U.calling g mk a) b A ρ
theorem z_pop_len : ∀ {n : Nat} {st acc as r : List zV}, z_pop n st acc = some (as, r) → as.length = n + acc.length
  | 0, st, acc, as, r, h => by
    unfold z_pop at h
    cases h
    omega
  | n + 1, [], acc, as, r, h => by cases h
  | n + 1, v :: st, acc, as, r, h => by
    have := z_pop_len (n := n) (st := st) (acc := v :: acc) h
    rw [this, List.length_cons]
    omega
section ZCA
variable {p : Program} {l : Launch} {e : Env} {R : Room} {s : State} {m : MethodId} {args : Array Value} {below : List Frame} {meth : Method} {c : Code} {D : va_G} {cl : List vw_C} {A : Nat → Prop} {ft : List FieldType} {ρ : Nat → Int32} {b nL : Nat}
variable {X : State → Nat → (Nat → Prop) → (Nat → Int32) → Prop} {own mn : String} {cc : ByteArray} {W0 T0 : List Cond} {pc i d : Nat} {y : zY} {as st : List zV} {S : zS} {o : zR} {host C : String}
theorem z_blind (hX : zXok X) {vs : List Value} {ws : va_W} {tys : List (ClassId × FieldType)} {n : Nat} : FrameBlind (va_Pc vs (z_B X D cl ρ b ws tys n)) := by
  intro a U g mk q
  obtain ⟨q0, q1, qP, qK, qX⟩ := q
  exact ⟨q0, q1, qP, va_K.moved (u := U) (U := U.calling g mk a) (Vm.Alike.refl U.vm) qK, hX.2 U b _ ρ g mk a qX⟩
theorem z_start (hX : zXok X) (hX0 : X s b A ρ) (hA : ∀ q, s.heap.size ≤ q → A q) {vs : List Value} {ws : va_W} {tys : List (ClassId × FieldType)} {H : Heap} {locs : List Loc} (hP : va_P D cl ws H) (hD : va_D A ws) (hK : va_K D cl tys s) (hS : va_S A s.heap H locs) : ∀ U : State, U.heap = H → s.WarmedH U.vm → va_Pc vs (z_B X D cl ρ b ws tys H.size) vs.toArray U := by
  intro U hU hW
  exact ⟨rfl, by rw [hU], by rw [hU]; exact hP, va_K.moved hW.alike hK, hX.1 s U b A _ ρ hX0 (fun q h1 h2 => by rw [hU]; exact hS.2.1 q h1 h2) (z_inA' hD hS hA) hW⟩
theorem zc_V (hX : zXok X) (hX0 : X s b A ρ) (hC : zctx p s m args meth c own mn cc nL A W0) (hst0 : l.stackTraces = false) (hM : zMet X (z_ws T0 y) cl ft ρ b d y as (z_in S) o) (hG : GoodIn W0 (z_ws T0 y)) (hF : d + 2 ≤ R.frames) (hL : 64 * (d + 2) ≤ R.locals) (hml : y.2.2.1 ≤ 45) (hc : S.2.2.1 + o.2.2.2.2.2.2.1 ≤ R.cells) (hs : S.2.2.2 + o.2.2.2.2.2.2.2 ≤ R.slots) (h8 : z_cats st ≤ 8) (hini : Cond.initialized y.1.cls ∈ W0) (hl : Cond.methodLink own i y.1 ∈ W0) {n : Nat} (hdd : y.1.cls ≠ "java/lang/invoke/MethodHandle" ∧ y.1.cls ≠ "java/lang/invoke/VarHandle" ∧ (parseMethodDescriptor y.1.desc).map (fun d => d.parameters.length) = some n) (hn : as.length = n + 1) (hin : Cond.instanceMethod y.1 ∈ W0) (hsel : Cond.selects C y.1 y.1 ∈ W0) {r : zV} {as1 : List zV} (has : as = r :: as1) {t : zC} (h6 : r.1 = 6) (ht : z_cat S.1 r.2 = some t) (h0 : t.1 = 0) {q : vw_C} (hq : cl[t.2.1]? = some q) (hqC : q.1 = C) (hd : decode cc pc = .ok (.invokevirtual i, 3)) : z_callRow p l e R s m args below meth c D cl A ft ρ b nL pc as st S o := by
  obtain ⟨hx, hb, hml0, hown, hts, hA, hlocks, hmn⟩ := hC
  obtain ⟨y1, yc, yn, yr⟩ := y
  dsimp only at hml hdd
  intro ws tys H locs ls vs rest hP hD hK hS hw hl0 hvs hrest
  have hcat := z_cats_eq hrest
  have hMM := hM l D ws tys H.size vs hst0 (hD.weaken (fun _ _ _ _ => trivial)) hw hvs
  subst has
  match vs, hvs, hMM with
  | w :: vs, hvs, hMM =>
    obtain ⟨r1, r2⟩ := r
    dsimp only at h6
    subst h6
    obtain ⟨a, ha, rfl⟩ := hvs.1
    have hlen : vs.length = n := by
      have h1 := zl_len hvs.2
      rw [List.length_cons] at hn
      omega
    rw [List.reverse_cons, List.append_assoc]
    have hr : ∃ cell : Cell, H[a]? = some cell ∧ cell.vm.isStatics = false ∧ s.vm.findClass C = some cell.cls := by
      obtain ⟨q2, g1, g2⟩ := zw_get hw ht
      obtain ⟨t1, t2⟩ := t
      dsimp only at h0
      subst h0
      obtain ⟨fs, g3, -⟩ := g2
      obtain ⟨q21, q22⟩ := q2
      dsimp only at g3
      subst g3
      rw [List.getElem?_map, g1] at ha
      cases ha
      subst hqC
      exact va_recv hK hP hq g1
    exact va_runV (As := vs) ⟨hx, hb, hml0, hown, hts⟩ hMM ⟨callB_of n hts hG rfl rfl rfl (hts _ hini) (hts _ hl) hdd ⟨by show d + 1 + 1 ≤ _; omega, by show 8 + (yn + 11) + 64 * (d + 1) ≤ _; omega⟩, hts _ hin, hts _ hsel⟩ ⟨z_blind hX, hr, z_start hX hX0 hA hP hD hK hS⟩ rfl hlen hl0 rfl (by show 2 * 0 + _ ≤ 8; omega) hd ⟨hc, hs⟩
theorem zc_VN (hX : zXok X) (hX0 : X s b A ρ) (hC : zctx p s m args meth c own mn cc nL A W0) (hst0 : l.stackTraces = false) (hM : zMet X (z_ws T0 y) cl ft ρ b d y as (z_in S) o) (hG : GoodIn W0 (z_ws T0 y)) (hF : d + 2 ≤ R.frames) (hL : 64 * (d + 2) ≤ R.locals) (hml : y.2.2.1 ≤ 45) (hc : S.2.2.1 + o.2.2.2.2.2.2.1 ≤ R.cells) (hs : S.2.2.2 + o.2.2.2.2.2.2.2 ≤ R.slots) (h8 : z_cats st ≤ 8) (hini : Cond.initialized y.1.cls ∈ W0) (hl : Cond.methodLinkNest own i y.1 host ∈ W0) {n : Nat} (hdd : y.1.cls ≠ "java/lang/invoke/MethodHandle" ∧ y.1.cls ≠ "java/lang/invoke/VarHandle" ∧ (parseMethodDescriptor y.1.desc).map (fun d => d.parameters.length) = some n) (hn : as.length = n + 1) (hin : Cond.instanceMethod y.1 ∈ W0) (hsel : Cond.selects C y.1 y.1 ∈ W0) {r : zV} {as1 : List zV} (has : as = r :: as1) {t : zC} (h6 : r.1 = 6) (ht : z_cat S.1 r.2 = some t) (h0 : t.1 = 0) {q : vw_C} (hq : cl[t.2.1]? = some q) (hqC : q.1 = C) (hd : decode cc pc = .ok (.invokevirtual i, 3)) : z_callRow p l e R s m args below meth c D cl A ft ρ b nL pc as st S o := by
  obtain ⟨hx, hb, hml0, hown, hts, hA, hlocks, hmn⟩ := hC
  obtain ⟨y1, yc, yn, yr⟩ := y
  dsimp only at hml hdd
  intro ws tys H locs ls vs rest hP hD hK hS hw hl0 hvs hrest
  have hcat := z_cats_eq hrest
  have hMM := hM l D ws tys H.size vs hst0 (hD.weaken (fun _ _ _ _ => trivial)) hw hvs
  subst has
  match vs, hvs, hMM with
  | w :: vs, hvs, hMM =>
    obtain ⟨r1, r2⟩ := r
    dsimp only at h6
    subst h6
    obtain ⟨a, ha, rfl⟩ := hvs.1
    have hlen : vs.length = n := by
      have h1 := zl_len hvs.2
      rw [List.length_cons] at hn
      omega
    rw [List.reverse_cons, List.append_assoc]
    have hr : ∃ cell : Cell, H[a]? = some cell ∧ cell.vm.isStatics = false ∧ s.vm.findClass C = some cell.cls := by
      obtain ⟨q2, g1, g2⟩ := zw_get hw ht
      obtain ⟨t1, t2⟩ := t
      dsimp only at h0
      subst h0
      obtain ⟨fs, g3, -⟩ := g2
      obtain ⟨q21, q22⟩ := q2
      dsimp only at g3
      subst g3
      rw [List.getElem?_map, g1] at ha
      cases ha
      subst hqC
      exact va_recv hK hP hq g1
    exact va_runVN (As := vs) ⟨hx, hb, hml0, hown, hts⟩ hMM ⟨va_cnB n hts hG rfl rfl rfl (va_Nw.of rfl (hts _ hl)) (hts _ hini) hdd ⟨by show d + 1 + 1 ≤ _; omega, by show 8 + (yn + 11) + 64 * (d + 1) ≤ _; omega⟩, hts _ hin, hts _ hsel⟩ ⟨z_blind hX, hr, z_start hX hX0 hA hP hD hK hS⟩ rfl hlen hl0 rfl (by show 2 * 0 + _ ≤ 8; omega) hd ⟨hc, hs⟩
theorem zc_S (hX : zXok X) (hX0 : X s b A ρ) (hC : zctx p s m args meth c own mn cc nL A W0) (hst0 : l.stackTraces = false) (hM : zMet X (z_ws T0 y) cl ft ρ b d y as (z_in S) o) (hG : GoodIn W0 (z_ws T0 y)) (hF : d + 2 ≤ R.frames) (hL : 64 * (d + 2) ≤ R.locals) (hml : y.2.2.1 ≤ 45) (hc : S.2.2.1 + o.2.2.2.2.2.2.1 ≤ R.cells) (hs : S.2.2.2 + o.2.2.2.2.2.2.2 ≤ R.slots) (h8 : z_cats st ≤ 8) (hini : Cond.initialized y.1.cls ∈ W0) (hl : Cond.methodLink own i y.1 ∈ W0) {n : Nat} (hdd : y.1.cls ≠ "java/lang/invoke/MethodHandle" ∧ y.1.cls ≠ "java/lang/invoke/VarHandle" ∧ (parseMethodDescriptor y.1.desc).map (fun d => d.parameters.length) = some n) (hn : as.length = n) (hst : Cond.static y.1 ∈ W0) (hd : decode cc pc = .ok (.invokestatic i, 3)) : z_callRow p l e R s m args below meth c D cl A ft ρ b nL pc as st S o := by
  obtain ⟨hx, hb, hml0, hown, hts, hA, hlocks, hmn⟩ := hC
  obtain ⟨y1, yc, yn, yr⟩ := y
  dsimp only at hml hdd
  intro ws tys H locs ls vs rest hP hD hK hS hw hl0 hvs hrest
  have hcat := z_cats_eq hrest
  have hMM := hM l D ws tys H.size vs hst0 (hD.weaken (fun _ _ _ _ => trivial)) hw hvs
  have hlen : vs.length = n := (zl_len hvs).trans hn
  exact va_runS (As := vs) ⟨hx, hb, hml0, hown, hts⟩ hMM ⟨callB_of n hts hG rfl rfl rfl (hts _ hini) (hts _ hl) hdd ⟨by show d + 1 + 1 ≤ _; omega, by show 8 + (yn + 11) + 64 * (d + 1) ≤ _; omega⟩, hts _ hst⟩ ⟨z_blind hX, z_start hX hX0 hA hP hD hK hS⟩ rfl hlen hl0 rfl (by show 2 * 0 + _ ≤ 8; omega) hd ⟨hc, hs⟩
theorem zc_SN (hX : zXok X) (hX0 : X s b A ρ) (hC : zctx p s m args meth c own mn cc nL A W0) (hst0 : l.stackTraces = false) (hM : zMet X (z_ws T0 y) cl ft ρ b d y as (z_in S) o) (hG : GoodIn W0 (z_ws T0 y)) (hF : d + 2 ≤ R.frames) (hL : 64 * (d + 2) ≤ R.locals) (hml : y.2.2.1 ≤ 45) (hc : S.2.2.1 + o.2.2.2.2.2.2.1 ≤ R.cells) (hs : S.2.2.2 + o.2.2.2.2.2.2.2 ≤ R.slots) (h8 : z_cats st ≤ 8) (hini : Cond.initialized y.1.cls ∈ W0) (hl : Cond.methodLinkNest own i y.1 host ∈ W0) {n : Nat} (hdd : y.1.cls ≠ "java/lang/invoke/MethodHandle" ∧ y.1.cls ≠ "java/lang/invoke/VarHandle" ∧ (parseMethodDescriptor y.1.desc).map (fun d => d.parameters.length) = some n) (hn : as.length = n) (hst : Cond.static y.1 ∈ W0) (hd : decode cc pc = .ok (.invokestatic i, 3)) : z_callRow p l e R s m args below meth c D cl A ft ρ b nL pc as st S o := by
  obtain ⟨hx, hb, hml0, hown, hts, hA, hlocks, hmn⟩ := hC
  obtain ⟨y1, yc, yn, yr⟩ := y
  dsimp only at hml hdd
  intro ws tys H locs ls vs rest hP hD hK hS hw hl0 hvs hrest
  have hcat := z_cats_eq hrest
  have hMM := hM l D ws tys H.size vs hst0 (hD.weaken (fun _ _ _ _ => trivial)) hw hvs
  have hlen : vs.length = n := (zl_len hvs).trans hn
  exact va_runSN (As := vs) ⟨hx, hb, hml0, hown, hts⟩ hMM ⟨va_cnB n hts hG rfl rfl rfl (va_Nw.of rfl (hts _ hl)) (hts _ hini) hdd ⟨by show d + 1 + 1 ≤ _; omega, by show 8 + (yn + 11) + 64 * (d + 1) ≤ _; omega⟩, hts _ hst, trivial⟩ ⟨z_blind hX, z_start hX hX0 hA hP hD hK hS⟩ rfl hlen hl0 rfl (by show 2 * 0 + _ ≤ 8; omega) hd ⟨hc, hs⟩
theorem zc_I (hX : zXok X) (hX0 : X s b A ρ) (hC : zctx p s m args meth c own mn cc nL A W0) (hst0 : l.stackTraces = false) (hM : zMet X (z_ws T0 y) cl ft ρ b d y as (z_in S) o) (hG : GoodIn W0 (z_ws T0 y)) (hF : d + 2 ≤ R.frames) (hL : 64 * (d + 2) ≤ R.locals) (hml : y.2.2.1 ≤ 45) (hc : S.2.2.1 + o.2.2.2.2.2.2.1 ≤ R.cells) (hs : S.2.2.2 + o.2.2.2.2.2.2.2 ≤ R.slots) (h8 : z_cats st ≤ 8) (hini : Cond.initialized y.1.cls ∈ W0) (hl : Cond.methodLink own i y.1 ∈ W0) {n : Nat} (hdd : y.1.cls ≠ "java/lang/invoke/MethodHandle" ∧ y.1.cls ≠ "java/lang/invoke/VarHandle" ∧ (parseMethodDescriptor y.1.desc).map (fun d => d.parameters.length) = some n) (hn : as.length = n + 1) (hret : y.2.2.2 = none) (hin : Cond.instanceMethod y.1 ∈ W0) (hy1 : y.1.name = "<init>") {r : zV} {as1 : List zV} (has : as = r :: as1) (h6 : r.1 = 6) (hd : decode cc pc = .ok (.invokespecial i, 3)) : z_callRow p l e R s m args below meth c D cl A ft ρ b nL pc as st S o := by
  obtain ⟨hx, hb, hml0, hown, hts, hA, hlocks, hmn⟩ := hC
  obtain ⟨y1, yc, yn, yr⟩ := y
  dsimp only at hml hdd
  intro ws tys H locs ls vs rest hP hD hK hS hw hl0 hvs hrest
  have hcat := z_cats_eq hrest
  have hMM := hM l D ws tys H.size vs hst0 (hD.weaken (fun _ _ _ _ => trivial)) hw hvs
  subst has
  match vs, hvs, hMM with
  | w :: vs, hvs, hMM =>
    obtain ⟨r1, r2⟩ := r
    dsimp only at h6
    subst h6
    obtain ⟨a, ha, rfl⟩ := hvs.1
    have hlen : vs.length = n := by
      have h1 := zl_len hvs.2
      rw [List.length_cons] at hn
      omega
    rw [List.reverse_cons, List.append_assoc]
    dsimp only at hret
    subst hret
    exact va_runI (As := vs) ⟨hx, hb, hml0, hown, hts⟩ hMM ⟨callB_of n hts hG rfl rfl rfl (hts _ hini) (hts _ hl) hdd ⟨by show d + 1 + 1 ≤ _; omega, by show 8 + (yn + 11) + 64 * (d + 1) ≤ _; omega⟩, hy1, hts _ hin⟩ ⟨z_blind hX, z_start hX hX0 hA hP hD hK hS⟩ rfl hlen hl0 rfl (by show 2 * 0 + _ ≤ 8; omega) hd ⟨hc, hs⟩
theorem zc_IN (hX : zXok X) (hX0 : X s b A ρ) (hC : zctx p s m args meth c own mn cc nL A W0) (hst0 : l.stackTraces = false) (hM : zMet X (z_ws T0 y) cl ft ρ b d y as (z_in S) o) (hG : GoodIn W0 (z_ws T0 y)) (hF : d + 2 ≤ R.frames) (hL : 64 * (d + 2) ≤ R.locals) (hml : y.2.2.1 ≤ 45) (hc : S.2.2.1 + o.2.2.2.2.2.2.1 ≤ R.cells) (hs : S.2.2.2 + o.2.2.2.2.2.2.2 ≤ R.slots) (h8 : z_cats st ≤ 8) (hini : Cond.initialized y.1.cls ∈ W0) (hl : Cond.methodLinkNest own i y.1 host ∈ W0) {n : Nat} (hdd : y.1.cls ≠ "java/lang/invoke/MethodHandle" ∧ y.1.cls ≠ "java/lang/invoke/VarHandle" ∧ (parseMethodDescriptor y.1.desc).map (fun d => d.parameters.length) = some n) (hn : as.length = n + 1) (hret : y.2.2.2 = none) (hin : Cond.instanceMethod y.1 ∈ W0) (hy1 : y.1.name = "<init>") {r : zV} {as1 : List zV} (has : as = r :: as1) (h6 : r.1 = 6) (hd : decode cc pc = .ok (.invokespecial i, 3)) : z_callRow p l e R s m args below meth c D cl A ft ρ b nL pc as st S o := by
  obtain ⟨hx, hb, hml0, hown, hts, hA, hlocks, hmn⟩ := hC
  obtain ⟨y1, yc, yn, yr⟩ := y
  dsimp only at hml hdd
  intro ws tys H locs ls vs rest hP hD hK hS hw hl0 hvs hrest
  have hcat := z_cats_eq hrest
  have hMM := hM l D ws tys H.size vs hst0 (hD.weaken (fun _ _ _ _ => trivial)) hw hvs
  subst has
  match vs, hvs, hMM with
  | w :: vs, hvs, hMM =>
    obtain ⟨r1, r2⟩ := r
    dsimp only at h6
    subst h6
    obtain ⟨a, ha, rfl⟩ := hvs.1
    have hlen : vs.length = n := by
      have h1 := zl_len hvs.2
      rw [List.length_cons] at hn
      omega
    rw [List.reverse_cons, List.append_assoc]
    dsimp only at hret
    subst hret
    exact va_runIN (As := vs) ⟨hx, hb, hml0, hown, hts⟩ hMM ⟨va_cnB n hts hG rfl rfl rfl (va_Nw.of rfl (hts _ hl)) (hts _ hini) hdd ⟨by show d + 1 + 1 ≤ _; omega, by show 8 + (yn + 11) + 64 * (d + 1) ≤ _; omega⟩, hy1, hts _ hin⟩ ⟨z_blind hX, z_start hX hX0 hA hP hD hK hS⟩ rfl hlen hl0 rfl (by show 2 * 0 + _ ≤ 8; omega) hd ⟨hc, hs⟩
end ZCA
