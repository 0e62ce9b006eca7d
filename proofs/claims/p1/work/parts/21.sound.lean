/-! WHAT THE ABSTRACT MACHINE SAYS, THE REAL ONE DOES -/
/-- at the head of what is left stands the place n -/
def zpc (cs : List zJ) (n : Nat) : Prop := ∀ (y : zJ) (r : List zJ), cs = y :: r → y.1 = n
def z_room (R : Room) (d : Nat) (o : zR) : Prop := d + 1 ≤ R.frames ∧ 64 * (d + 1) ≤ R.locals ∧ o.2.2.2.2.2.2.1 ≤ R.cells ∧ o.2.2.2.2.2.2.2 ≤ R.slots
/-- how a throw is told at a method's end -/
abbrev zQT : Type := (Nat → Int32) → Nat → List Frame → va_G → (Nat → Prop) → List Nat → Array Value → State → zR → State → Prop
/-- what is known of the methods: by number, depth, arguments, world, outcome -/
abbrev zMT : Type := (Nat → Int32) → Nat → Nat → Nat → List zV → zS → zR → Prop
def z_fin (QF : zQT) (cl : List vw_C) (ft : List FieldType) (ρ : Nat → Int32) (b : Nat) (below : List Frame) (D : va_G) (A : Nat → Prop) (ad0 : List Nat) (args : Array Value) (s : State) (o : zR) : State → Prop := match o.1 with
  | 3 => QF ρ b below D A ad0 args s o
  | _ => MQ below (fun _ => zQ D cl ft ρ b A ad0 o) args s o.2.2.2.2.2.2.1 o.2.2.2.2.2.2.2 A
section ZSD
variable (X : State → Nat → (Nat → Prop) → (Nat → Int32) → Prop) (QF : zQT) (ZM : zMT) (Y : Nat → zY) (W0 : Nat → List Cond) (ET : Nat → List ExceptionTableEntry) (cl : List vw_C) (ft : List FieldType) (G : zG)
/-- a return, or a throw -/
def zRok (a : Nat) (x : zJ) : Prop :=
  ∀ (p : Program) (l : Launch) (e : Env) (R : Room) (s : State) (m : MethodId) (args : Array Value) (below : List Frame) (meth : Method) (c : Code) (D : va_G) (A : Nat → Prop) (ρ : Nat → Int32) (b : Nat) (ad0 : List Nat) (k : zK),
    zctx p s m args meth c (Y a).1.cls (Y a).1.name (Y a).2.1 (Y a).2.2.1 A (W0 a) → l.stackTraces = false → c.exceptionTable.toList = ET a → meth.sig.returnType = (Y a).2.2.2 → 1 ≤ R.frames → 64 ≤ R.locals → ze ρ G.2.2.2 → X s b A ρ → (match (z_do G x k).1 with
      | 3 => zgo p l e R s m args below meth c (MQ below (fun _ => zQ D cl ft ρ b A ad0 (1, (z_do G x k).2.2.1, (z_do G x k).2.2.2)) args s (z_do G x k).2.2.2.2.2.2.2.1 (z_do G x k).2.2.2.2.2.2.2.2 A) D cl A ft ρ b (Y a).2.2.1 ad0 x.1 k
      | 4 => zgo p l e R s m args below meth c (MQ below (fun _ => zQ D cl ft ρ b A ad0 (2, (z_do G x k).2.2.1, (z_do G x k).2.2.2)) args s (z_do G x k).2.2.2.2.2.2.2.1 (z_do G x k).2.2.2.2.2.2.2.2 A) D cl A ft ρ b (Y a).2.2.1 ad0 x.1 k
      | 5 => 9 ≤ R.frames → 576 ≤ R.locals → (z_do G x k).2.2.2.2.2.2.2.1 ≤ R.cells → (z_do G x k).2.2.2.2.2.2.2.2 ≤ R.slots → zgo p l e R s m args below meth c (QF ρ b below D A ad0 args s (3, (z_do G x k).2.2.1, (z_do G x k).2.2.2)) D cl A ft ρ b (Y a).2.2.1 ad0 x.1 k
      | 0 => True
      | _ => False)
/-- a call -/
def zCok (a : Nat) (me : zP) (x : zJ) : Prop :=
  ∀ (p : Program) (l : Launch) (e : Env) (R : Room) (s : State) (m : MethodId) (args : Array Value) (below : List Frame) (meth : Method) (c : Code) (D : va_G) (A : Nat → Prop) (ρ : Nat → Int32) (b : Nat) (k : zK) (N : zN), z_do G x k = N →
    zctx p s m args meth c (Y a).1.cls (Y a).1.name (Y a).2.1 (Y a).2.2.1 A (W0 a) → l.stackTraces = false → c.exceptionTable.toList = ET a → ze ρ G.2.2.2 → X s b A ρ → (match N.1 with
      | 7 => ∃ as : List zV, N.2.2.2.1 = z_args 0 as ∧ k.2.1 = as.reverse ++ N.2.2.2.2.1 ∧ N.2.2.2.2.2 = k.2.2 ∧ z_cats as ≤ (Y N.2.1).2.2.1 ∧ ∀ (d : Nat) (o : zR), d + 2 ≤ R.frames → 64 * (d + 2) ≤ R.locals → k.2.2.2.2.1 + o.2.2.2.2.2.2.1 ≤ R.cells → k.2.2.2.2.2 + o.2.2.2.2.2.2.2 ≤ R.slots → ZM ρ b N.2.1 d as (z_in k.2.2) o →
          ((o.1 = 1 ∨ o.1 = 2) → z_callRow p l e R s m args below meth c D cl A ft ρ b (Y a).2.2.1 x.1 as N.2.2.2.2.1 k.2.2 o) ∧
          (o.1 = 3 → x.2.1 = 3 → (∀ (q : Nat) (y : zJ) (r : List zJ), z_handler me.2.1 x.1 o.2.1.1 = some q → z_drop me.1 q = y :: r → ∀ (Q : State → Prop) (ad0 : List Nat), zgo p l e R s m args below meth c Q D cl A ft ρ b (Y a).2.2.1 ad0 y.1 (k.1, [(7, 0)], z_grow k.2.2 o.2.2.2.2) → zgo p l e R s m args below meth c Q D cl A ft ρ b (Y a).2.2.1 ad0 x.1 k) ∧
            (me.2.1 = [] → ∀ ad0 : List Nat, zgo p l e R s m args below meth c (QF ρ b below D A ad0 args s (3, o.2.1, [], [], z_grow k.2.2 o.2.2.2.2)) D cl A ft ρ b (Y a).2.2.1 ad0 x.1 k))
      | 0 => True
      | _ => False)
/-- a piece of the method that is known as one -/
def zLok (a : Nat) (x : zJ) (n : Nat) : Prop :=
  ∀ (p : Program) (l : Launch) (e : Env) (R : Room) (s : State) (m : MethodId) (args : Array Value) (below : List Frame) (meth : Method) (c : Code) (Q : State → Prop) (D : va_G) (A : Nat → Prop) (ρ : Nat → Int32) (b : Nat) (ad0 : List Nat) (k : zK) (N : zN), z_do G x k = N →
    zctx p s m args meth c (Y a).1.cls (Y a).1.name (Y a).2.1 (Y a).2.2.1 A (W0 a) → l.stackTraces = false → c.exceptionTable.toList = ET a → meth.sig.returnType = (Y a).2.2.2 → ze ρ G.2.2.2 → X s b A ρ → (match N.1 with
      | 9 => N.2.1 + 1 ≤ R.frames → 64 * (N.2.1 + 1) ≤ R.locals → N.2.2.2.2.2.2.2.1 ≤ R.cells → N.2.2.2.2.2.2.2.2 ≤ R.slots → zgo p l e R s m args below meth c Q D cl A ft ρ b (Y a).2.2.1 ad0 n N.2.2.2 → zgo p l e R s m args below meth c Q D cl A ft ρ b (Y a).2.2.1 ad0 x.1 k
      | 0 => True
      | _ => False)
/-- an instruction -/
def zin (a : Nat) (me : zP) (x : zJ) (r : List zJ) : Prop :=
  (∃ n, zIok X (Y a).1.cls (Y a).1.name (Y a).2.1 (Y a).2.2.1 (W0 a) cl ft G me x n ∧ zpc r n) ∨ zRok X QF Y W0 ET cl ft G a x ∨ (zCok X QF ZM Y W0 ET cl ft G a me x ∧ zpc r (x.1 + 3)) ∨ ∃ n, zLok X Y W0 ET cl ft G a x n ∧ zpc r n
def zcode (a : Nat) (me : zP) : List zJ → Prop
  | [] => True
  | x :: r => zin X QF ZM Y W0 ET cl ft G a me x r ∧ zcode a me r
/-- what a method's body does -/
def zbody (ρ : Nat → Int32) (b a d : Nat) (cs : List zJ) (k : zK) (o : zR) : Prop :=
  ∀ (p : Program) (l : Launch) (e : Env) (R : Room) (s : State) (m : MethodId) (args : Array Value) (below : List Frame) (meth : Method) (c : Code) (D : va_G) (A : Nat → Prop) (ad0 : List Nat) (pc : Nat) (Q : State → Prop), zpc cs pc →
    zctx p s m args meth c (Y a).1.cls (Y a).1.name (Y a).2.1 (Y a).2.2.1 A (W0 a) → l.stackTraces = false → c.exceptionTable.toList = ET a → meth.sig.returnType = (Y a).2.2.2 → z_room R d o → X s b A ρ →
    (o.1 = 5 → zgo p l e R s m args below meth c Q D cl A ft ρ b (Y a).2.2.1 ad0 o.2.1.1 o.2.2) → (o.1 ≠ 5 → Q = z_fin QF cl ft ρ b below D A ad0 args s o) →
    zgo p l e R s m args below meth c Q D cl A ft ρ b (Y a).2.2.1 ad0 pc k
end ZSD
section ZSE
variable {X : State → Nat → (Nat → Prop) → (Nat → Int32) → Prop} {QF : zQT} {ZM : zMT} {Y : Nat → zY} {W0 : Nat → List Cond} {ET : Nat → List ExceptionTableEntry} {cl : List vw_C} {ft : List FieldType} {G : zG} {mt : List zP}
theorem zcode_drop {a : Nat} {me : zP} : ∀ {cs : List zJ} (n : Nat), zcode X QF ZM Y W0 ET cl ft G a me cs → zcode X QF ZM Y W0 ET cl ft G a me (z_drop cs n)
  | cs, 0, h => by unfold z_drop; exact h
  | [], n + 1, h => by unfold z_drop; exact h
  | _ :: cs, n + 1, h => by
    show zcode X QF ZM Y W0 ET cl ft G a me (z_drop cs n)
    exact zcode_drop n h.2
theorem z_sound {ρ : Nat → Int32} {b : Nat} (he : ze ρ G.2.2.2) (hmt : ∀ (a : Nat) (me : zP), z_at mt a = some me → zcode X QF ZM Y W0 ET cl ft G a me me.1 ∧ zpc me.1 0)
    (hZ : ∀ (a : Nat) (me : zP) (d : Nat) (as : List zV) (S : zS) (o : zR), z_at mt a = some me → z_cats as ≤ (Y a).2.2.1 → (o.1 = 1 ∨ o.1 = 2 ∨ o.1 = 3) → zbody X QF Y W0 ET cl ft ρ b a d me.1 (z_args 0 as, [], z_in S) o → ZM ρ b a d as (z_in S) o) :
    ∀ (f d a : Nat) (me : zP) (cs : List zJ) (k : zK) (o : zR), z_at mt a = some me → zcode X QF ZM Y W0 ET cl ft G a me cs → zx mt G f d me cs k = o → zGd o → zbody X QF Y W0 ET cl ft ρ b a d cs k o := by
  intro f
  induction f with
  | zero =>
    intro d a me cs k o ha hc h ho
    exact absurd (show o.1 = 0 by rw [← h]; rfl) (by unfold zGd at ho; omega)
  | succ f ih =>
    intro d a me cs k o ha hc h ho p l e R s m args below meth c D A ad0 pc Q hpc hC hst hET hret hR hX hQ5 hQn
    obtain ⟨f2, x, r, ef, ecs, N, hN, hs⟩ := zx_step h ho
    cases ef
    subst ecs
    have epc : x.1 = pc := hpc x r rfl
    subst epc
    obtain ⟨hR1, hR2, hR3, hR4⟩ := hR
    have hzc := hc.2
    have hall := (hmt a me ha).1
    rcases hc.1 with ⟨n, hI, hn⟩ | hI | ⟨hI, hn⟩ | ⟨n, hI, hn⟩
    · have hI := hI p l e R s m args below meth c Q D A ρ b ad0 k hC (by omega) (by omega) he hX
      rw [hN] at hI
      unfold zres at hI
      rcases hs with ⟨e1, h1, h2, h3⟩ | ⟨e1, h1, h2, h3⟩ | ⟨e1, h1, h2, h3⟩ | ⟨e1, h1, h2, h3⟩ | ⟨e1, h1, h2, h3⟩ | ⟨e1, h0, h1, h2, h3⟩ | ⟨e1, h0, h1, h2, h3⟩ | ⟨e1, h0, h1, h2, h3⟩ | ⟨e1, h1, h2, h3⟩ | ⟨e1, h1⟩
      · rw [e1] at hI
        have hm := zx_mono f h1 ho
        exact hI (Nat.le_trans hm.1 hR3) (Nat.le_trans hm.2 hR4) (ih d a me r N.2.2.2 o ha hzc h1 ho p l e R s m args below meth c D A ad0 n Q hn hC hst hET hret ⟨hR1, hR2, hR3, hR4⟩ hX hQ5 hQn)
      · rw [e1] at hI
        refine hI (fun y r2 hy => ?_)
        exact ih d a me _ N.2.2.2 o ha (zcode_drop _ hall) h1 ho p l e R s m args below meth c D A ad0 y.1 Q (fun y2 r3 h9 => by rw [hy] at h9; cases h9; rfl) hC hst hET hret ⟨hR1, hR2, hR3, hR4⟩ hX hQ5 hQn
      · rw [e1] at hI
        refine hI (fun y r2 hy => ?_)
        exact ih d a me _ N.2.2.2 o ha (zcode_drop _ hall) h1 ho p l e R s m args below meth c D A ad0 y.1 Q (fun y2 r3 h9 => by rw [hy] at h9; cases h9; rfl) hC hst hET hret ⟨hR1, hR2, hR3, hR4⟩ hX hQ5 hQn
      · rw [e1] at hI; exact hI.elim
      · rw [e1] at hI; exact hI.elim
      · rw [e1] at hI; exact hI.elim
      · rw [e1] at hI
        have hm := zx_mono f h1 ho
        exact hI hst (by omega) (by omega) (Nat.le_trans hm.1 hR3) (Nat.le_trans hm.2 hR4) (ih d a me r N.2.2.2 o ha hzc h1 ho p l e R s m args below meth c D A ad0 n Q hn hC hst hET hret ⟨hR1, hR2, hR3, hR4⟩ hX hQ5 hQn)
      · rw [e1] at hI
        refine hI (ih d a me r N.2.2.2 o ha hzc h1 ho p l e R s m args below meth c D A ad0 n Q hn hC hst hET hret ⟨hR1, hR2, hR3, hR4⟩ hX hQ5 hQn) (fun y r2 hy => ?_)
        exact ih d a me _ N.2.2.2 o ha (zcode_drop _ hall) h0 ho p l e R s m args below meth c D A ad0 y.1 Q (fun y2 r3 h9 => by rw [hy] at h9; cases h9; rfl) hC hst hET hret ⟨hR1, hR2, hR3, hR4⟩ hX hQ5 hQn
      · rw [e1] at hI
        subst h1
        have hI : N.2.2.2 = k := hI
        have hq := hQ5 rfl
        rw [← hI]
        exact hq
      · rw [e1] at hI; exact hI.elim
    · have hI := hI p l e R s m args below meth c D A ρ b ad0 k hC hst hET hret (by omega) (by omega) he hX
      rw [hN] at hI
      rcases hs with ⟨e1, h1, h2, h3⟩ | ⟨e1, h1, h2, h3⟩ | ⟨e1, h1, h2, h3⟩ | ⟨e1, h1, h2, h3⟩ | ⟨e1, h1, h2, h3⟩ | ⟨e1, h0, h1, h2, h3⟩ | ⟨e1, h0, h1, h2, h3⟩ | ⟨e1, h0, h1, h2, h3⟩ | ⟨e1, h1, h2, h3⟩ | ⟨e1, h1⟩
      · rw [e1] at hI; exact hI.elim
      · rw [e1] at hI; exact hI.elim
      · rw [e1] at hI; exact hI.elim
      · rw [e1] at hI; subst h1; rw [hQn (fun z => absurd (show (1 : Nat) = 5 from z) (by decide))]; exact hI
      · rw [e1] at hI; subst h1; rw [hQn (fun z => absurd (show (2 : Nat) = 5 from z) (by decide))]; exact hI
      · rw [e1] at hI; subst h1; rw [hQn (fun z => absurd (show (3 : Nat) = 5 from z) (by decide))]; exact hI (by omega) (by omega) hR3 hR4
      · rw [e1] at hI; exact hI.elim
      · rw [e1] at hI; exact hI.elim
      · rw [e1] at hI; exact hI.elim
      · rw [e1] at hI; exact hI.elim
    · have hI := hI p l e R s m args below meth c D A ρ b k N hN hC hst hET he hX
      rcases hs with ⟨e1, h1, h2, h3⟩ | ⟨e1, h1, h2, h3⟩ | ⟨e1, h1, h2, h3⟩ | ⟨e1, h1, h2, h3⟩ | ⟨e1, h1, h2, h3⟩ | ⟨e1, h0, h1, h2, h3⟩ | ⟨e1, h0, h1, h2, h3⟩ | ⟨e1, h0, h1, h2, h3⟩ | ⟨e1, h1, h2, h3⟩ | ⟨e1, d2, m2, o2, ed, em, ex, hs⟩
      · rw [e1] at hI; exact hI.elim
      · rw [e1] at hI; exact hI.elim
      · rw [e1] at hI; exact hI.elim
      · rw [e1] at hI; exact hI.elim
      · rw [e1] at hI; exact hI.elim
      · rw [e1] at hI; exact hI.elim
      · rw [e1] at hI; exact hI.elim
      · rw [e1] at hI; exact hI.elim
      · rw [e1] at hI; exact hI.elim
      · rw [e1] at hI
        obtain ⟨as, g1, g2, g3, g4, hI⟩ := hI
        subst ed
        have ho2 : o2.1 = 1 ∨ o2.1 = 2 ∨ o2.1 = 3 := by
          rcases hs with ⟨e2, -⟩ | ⟨e2, -⟩ | ⟨e2, -⟩ | ⟨e2, -⟩ <;> omega
        rw [g1, g3] at ex
        obtain ⟨q1, q2⟩ := hmt N.2.1 m2 em
        have hM : ZM ρ b N.2.1 d2 as (z_in k.2.2) o2 := hZ N.2.1 m2 d2 as k.2.2 o2 em g4 ho2 (ih d2 N.2.1 m2 m2.1 (z_args 0 as, [], z_in k.2.2) o2 em q1 ex (by unfold zGd; omega))
        have hcs : k.2.2.2.2.1 + o2.2.2.2.2.2.2.1 ≤ R.cells ∧ k.2.2.2.2.2 + o2.2.2.2.2.2.2.2 ≤ R.slots := by
          refine (fun (q : k.2.2.2.2.1 + o2.2.2.2.2.2.2.1 ≤ o.2.2.2.2.2.2.1 ∧ k.2.2.2.2.2 + o2.2.2.2.2.2.2.2 ≤ o.2.2.2.2.2.2.2) => ⟨Nat.le_trans q.1 hR3, Nat.le_trans q.2 hR4⟩) ?_
          rcases hs with ⟨-, h1, -, -⟩ | ⟨-, h1, -, -⟩ | ⟨-, -, q, -, h1, -, -⟩ | ⟨-, -, -, h1, -, -⟩
          · have := zx_mono f h1 ho
            rw [g3] at this
            exact this
          · have := zx_mono f h1 ho
            rw [g3] at this
            exact this
          · have := zx_mono f h1 ho
            rw [g3] at this
            exact this
          · subst h1
            rw [g3]
            exact ⟨Nat.le_refl _, Nat.le_refl _⟩
        obtain ⟨j1, j2⟩ := hI d2 o2 (by omega) (by omega) hcs.1 hcs.2 hM
        have hA := hC.2.2.2.2.2.1
        rw [g3] at hs
        have ek : k = (k.1, as.reverse ++ N.2.2.2.2.1, k.2.2) := by rw [← g2]
        rcases hs with ⟨e2, h1, -, -⟩ | ⟨e2, h1, -, -⟩ | ⟨e2, hx3, q, hq, h1, -, -⟩ | ⟨e2, hx3, hq, h1, -, -⟩
        · rw [ek]
          refine zk_call (o := o2) hA (j1 (Or.inl e2)) (fun _ => ?_) (fun h9 => by rw [e2] at h9; cases h9)
          exact ih _ a me r _ o ha hzc h1 ho p l e R s m args below meth c D A ad0 _ Q hn hC hst hET hret ⟨hR1, hR2, hR3, hR4⟩ hX hQ5 hQn
        · rw [ek]
          refine zk_call (o := o2) hA (j1 (Or.inr e2)) (fun h9 => by rw [e2] at h9; cases h9) (fun _ => ?_)
          exact ih _ a me r _ o ha hzc h1 ho p l e R s m args below meth c D A ad0 _ Q hn hC hst hET hret ⟨hR1, hR2, hR3, hR4⟩ hX hQ5 hQn
        · cases hy : z_drop me.1 q with
          | nil =>
            rw [hy] at h1
            obtain ⟨f3, x3, r3, -, h9, -⟩ := zx_step h1 ho
            cases h9
          | cons y r2 =>
            refine (j2 e2 hx3).1 q y r2 hq hy _ ad0 ?_
            exact ih _ a me _ _ o ha (zcode_drop _ hall) h1 ho p l e R s m args below meth c D A ad0 y.1 Q (fun y2 r3 h9 => by rw [hy] at h9; cases h9; rfl) hC hst hET hret ⟨hR1, hR2, hR3, hR4⟩ hX hQ5 hQn
        · subst h1
          rw [hQn (fun z => absurd (show (3 : Nat) = 5 from z) (by decide))]
          exact (j2 e2 hx3).2 hq ad0
    · have hI := hI p l e R s m args below meth c Q D A ρ b ad0 k N hN hC hst hET hret he hX
      rcases hs with ⟨e1, h1, h2, h3⟩ | ⟨e1, h1, h2, h3⟩ | ⟨e1, h1, h2, h3⟩ | ⟨e1, h1, h2, h3⟩ | ⟨e1, h1, h2, h3⟩ | ⟨e1, h0, h1, h2, h3⟩ | ⟨e1, h0, h1, h2, h3⟩ | ⟨e1, h0, h1, h2, h3⟩ | ⟨e1, h1, h2, h3⟩ | ⟨e1, h1⟩
      · rw [e1] at hI; exact hI.elim
      · rw [e1] at hI; exact hI.elim
      · rw [e1] at hI; exact hI.elim
      · rw [e1] at hI; exact hI.elim
      · rw [e1] at hI; exact hI.elim
      · rw [e1] at hI; exact hI.elim
      · rw [e1] at hI
        have hm := zx_mono f h1 ho
        exact hI (by omega) (by omega) (Nat.le_trans hm.1 hR3) (Nat.le_trans hm.2 hR4) (ih d a me r N.2.2.2 o ha hzc h1 ho p l e R s m args below meth c D A ad0 n Q hn hC hst hET hret ⟨hR1, hR2, hR3, hR4⟩ hX hQ5 hQn)
      · rw [e1] at hI; exact hI.elim
      · rw [e1] at hI; exact hI.elim
      · rw [e1] at hI; exact hI.elim
end ZSE
