/-! AN EXCEPTION FINDS ITS HANDLER -/
/-- the rows of a table, in their order: passed by, passed as of another class, or taken: the handler at h -/
def zh_ok (pl : Platform) (s0 : State) (d : ClassId) (pc : Nat) (thrown : ClassId) (h : Nat) : List ExceptionTableEntry → Prop
  | [] => False
  | x :: t => (covers x pc = false ∧ zh_ok pl s0 d pc thrown h t) ∨ (covers x pc = true ∧ x.catchType ≠ 0 ∧ ∃ c, s0.vm.ClassLinks pl d x.catchType c ∧ ((s0.vm.assignable thrown c = true ∧ x.handlerPc = h) ∨ (s0.vm.assignable thrown c = false ∧ zh_ok pl s0 d pc thrown h t)))
/-- one row whose class is looked up now: the tables note it -/
theorem zh_one {Q : Handler → Pre} {E : CtlPost} {e : Env} {d : Bool} {acts : List Action} {S : State} {f : JFrame} {a : Addr} {x : ExceptionTableEntry} {t : List ExceptionTableEntry} {c : ClassId} {cell : Cell} (hx : covers x f.pc = true) (h0 : x.catchType ≠ 0)
    (hl : S.vm.ClassLinks e.platform f.method.cls x.catchType c) (hcell : S.heap[a]? = some cell) (hobj : ∀ k, cell.vm ≠ .statics k) (hk : ∃ k, S.vm.classes[cell.cls]? = some k) (hc : ∃ k, S.vm.classes[c]? = some k) :
    wp (findHandler.go f a (x :: t)) Q E e d acts S ↔ (if S.vm.assignable cell.cls c = true then Q (.found x.handlerPc) d acts (S.setVm (S.vm.noted f.method.cls x.catchType (.cls c))) else wp (findHandler.go f a t) Q E e d acts (S.setVm (S.vm.noted f.method.cls x.catchType (.cls c)))) := by
  simp only [covers] at hx
  have hg := (resolveClass_links e.toSetting hl).op (op := VmOp.resolveClass f.method.cls x.catchType) rfl
  have hal : S.vm.Alike (S.vm.noted f.method.cls x.catchType (.cls c)) := (Vm.Alike.refl S.vm).noted _ _ _
  obtain ⟨k1, hk⟩ := hk
  obtain ⟨k2, hc⟩ := hc
  obtain ⟨k3, hk3, -⟩ := hal.2.2 _ _ hk
  obtain ⟨k4, hk4, -⟩ := hal.2.2 _ _ hc
  have hfit : (S.vm.noted f.method.cls x.catchType (.cls c)).assignable cell.cls c = S.vm.assignable cell.cls c := hal.assignable ..
  cases hb : S.vm.assignable cell.cls c <;> rw [hb] at hfit <;> simp [findHandler.go, hx, h0, hg.1, hg.2, hcell, hobj, hk3, hk4, hfit, VmOp.dirties, VmOp.acts]
theorem zh_find {e : Env} {s0 : State} {f : JFrame} {a : Addr} {cell : Cell} {h : Nat} (hobj : ∀ k, cell.vm ≠ .statics k) (hk0 : ∃ k, s0.vm.classes[cell.cls]? = some k) :
    ∀ (rows : List ExceptionTableEntry) (S : State), s0.WarmedH S.vm → S.heap[a]? = some cell → zh_ok e.platform s0 f.method.cls f.pc cell.cls h rows →
      ∃ vm', s0.WarmedH vm' ∧ ∀ (Q : Handler → Pre) (E : CtlPost) (d : Bool) (acts : List Action), wp (findHandler.go f a rows) Q E e d acts S ↔ Q (.found h) d acts (S.setVm vm')
  | [], _, _, _, hz => hz.elim
  | x :: t, S, hW, hcell, hz => by
    obtain ⟨k0, hk9⟩ := hk0
    obtain ⟨k1, hk1, -⟩ := hW.alike.2.2 _ _ hk9
    rcases hz with ⟨hx, hz⟩ | ⟨hx, h0, c, hl, hz⟩
    · obtain ⟨vm', g1, g2⟩ := zh_find hobj ⟨k0, hk9⟩ t S hW hcell hz
      exact ⟨vm', g1, fun Q E d acts => (W.findHandler_go_skip hx).trans (g2 Q E d acts)⟩
    · obtain ⟨dk, _, _, k2, hd, _, _, _, _, hk2, _, hopen⟩ := hl.here
      obtain ⟨k3, hk3, -⟩ := hW.alike.2.2 _ _ hk2
      have hWn := hW.noted hd hopen (State.rightAt_cls hl)
      have hasg : S.vm.assignable cell.cls c = s0.vm.assignable cell.cls c := hW.alike.assignable ..
      have one := fun (Q : Handler → Pre) (E : CtlPost) (d : Bool) (acts : List Action) => zh_one (Q := Q) (E := E) (d := d) (acts := acts) (t := t) hx h0 (hW.classLinks hl) hcell hobj ⟨k1, hk1⟩ ⟨k3, hk3⟩
      rcases hz with ⟨ha, rfl⟩ | ⟨ha, hz⟩
      · refine ⟨_, hWn, fun Q E d acts => (one Q E d acts).trans ?_⟩
        rw [hasg, ha, if_pos rfl]
      · obtain ⟨vm', g1, g2⟩ := zh_find hobj ⟨k0, hk9⟩ t (S.setVm (S.vm.noted f.method.cls x.catchType (.cls c))) hWn hcell hz
        refine ⟨vm', g1, fun Q E d acts => (one Q E d acts).trans ?_⟩
        rw [hasg, ha, if_neg (by decide)]
        exact g2 Q E d acts
theorem zh_step {e : Env} {S : State} {a : Addr} {f : JFrame} {r : List Frame} {h : Nat} {vm' : Vm} (hf : ∀ (Q : Handler → Pre) (E : CtlPost) (d : Bool) (acts : List Action), wp (findHandler f a) Q E e d acts S ↔ Q (.found h) d acts (S.setVm vm')) :
    (stepThrowing e S a (.java f :: r)).Is ((S.setVm vm').setFrames (.java { f with pc := h, stack := [.ref a] } :: r)) [] := by
  simp only [stepThrowing, searchFrame, vmDo]
  generalize hr : Sem.go _ e false [] S = res
  obtain ⟨as, rfl, ha⟩ := Sem.eq_ok_of hr (a := Handler.found h) (s' := S.setVm vm') (acts' := []) (by simp [hf _ _ _ _])
  exact ⟨rfl, ha⟩
section ZH
variable {p : Program} {l : Launch} {e : Env} {R : Room} {s : State} {m : MethodId} {args : Array Value} {below : List Frame} {meth : Method} {c : Code} {H : Heap} {locs : List Loc} {cells slots : Nat} {Q : State → Prop} {ls : Array Slot} {rest : List Value} {pc : Nat}
/-- caught here, at h -/
theorem zh_catch {ce : Cell} {q : Addr} {h : Nat} {E : String} (hcell : H[q]? = some ce) (hv : ce.vm = .none) (hcl : s.vm.findClass E = some ce.cls) (hz : ∀ pl : Platform, pl.magicAccessors = ({} : Platform).magicAccessors → zh_ok pl s m.cls pc ce.cls h c.exceptionTable.toList)
    (kk : W p l e R s m args below meth c H locs cells slots Q (F0 m h ls [.ref q])) : vx_W p l e R s m args below meth c H locs cells slots Q (F0 m pc ls rest) q := by
  intro T hT X
  have hpl : e.platform.magicAccessors = ({} : Platform).magicAccessors := by rw [X.admits.platform]
  obtain ⟨k9, hk9, -⟩ := Vm.findClass_spec hcl
  obtain ⟨vm', hW, hf⟩ := zh_find (e := e) (f := F0 m pc ls rest) (a := q) (h := h) (by rw [hv]; intro k hk; cases hk) ⟨k9, hk9⟩ c.exceptionTable.toList ((T.setTop (F0 m pc ls rest)).pushFrame (.throwing q)) X.warmed (by show T.heap[q]? = _; rw [hT]; exact hcell) (hz e.platform hpl)
  obtain ⟨t, a1, b1⟩ := kk (T.setVm vm') hT (X.noted hW)
  refine ⟨t, ?_, b1⟩
  obtain ⟨hgo, hw⟩ := At.throwing (g := F0 m pc ls rest) X.here q
  refine Steps.head hgo hw ?_
  rw [stepThread_throwing (frames_entered X.here.top _), (zh_step (S := (T.setTop (F0 m pc ls rest)).pushFrame (.throwing q)) (f := F0 m pc ls rest) (h := h) (vm' := vm') (fun Q E d acts => (W.findHandler_eq X.method' X.code).trans (hf Q E d acts))).1]
  obtain ⟨g₀, hg⟩ := Option.isSome_iff_exists.mp X.here.top
  obtain ⟨r, hr⟩ := State.topJava?_eq_some.mp hg
  have hr2 : (T.setVm vm').frames = .java g₀ :: r := hr
  rw [State.setTop_of_frames _ hr2] at a1
  have key : ∀ (u : State) (F K : List Frame), ((u.setFrames F).setVm vm').setFrames K = (u.setVm vm').setFrames K := by
    intro u F K
    show ((u.setVm vm').setFrames F).setFrames K = _
    rw [State.setFrames_setFrames]
  rw [hr, List.tail_cons, State.pushFrame, key, State.setTop_of_frames _ hr, key]
  exact a1
end ZH
