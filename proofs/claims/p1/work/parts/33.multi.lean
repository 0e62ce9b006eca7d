/-! NEW ROWS OF ROWS: the machine's own loop -/
def z_oC (cA : ClassId) (N h i : Nat) : Cell := arrV cA N (fun j => va_rf (if j < i then some (h + 1 + j) else none))
def z_iC (comp : ClassId) (M : Nat) (dv : Value) : Cell := arrV comp M (fun _ => dv)
theorem z_oC_succ (cA : ClassId) (N h i : Nat) : (z_oC cA N h i).setSlot i (.ref (h + 1 + i)) = z_oC cA N h (i + 1) := by
  unfold z_oC
  rw [arrV_store]
  refine congrArg (arrV cA N) (funext fun j => ?_)
  unfold updV
  by_cases hj : j = i
  · subst hj
    rw [if_pos rfl, if_pos (by omega)]
    rfl
  · rw [if_neg hj]
    dsimp only
    by_cases h2 : j < i
    · rw [if_pos h2, if_pos (by omega)]
    · rw [if_neg h2, if_neg (by omega)]
theorem z_oC_nil (cA : ClassId) (N h : Nat) : ({ cls := cA, slots := Array.replicate N .null, vm := .none } : Cell) = z_oC cA N h 0 := by
  rw [arrV_new]
  rfl
/-- behind i of the inner rows -/
def z_mf (T : State) (cA comp : ClassId) (N M : Nat) (dv : Value) : Nat → State
  | 0 => T.pushCell (z_oC cA N T.heap.size 0)
  | i + 1 => ((z_mf T cA comp N M dv i).pushCell (z_iC comp M dv)).setCell T.heap.size (z_oC cA N T.heap.size (i + 1))
theorem z_mf_ok (T : State) (cA comp : ClassId) (N M : Nat) (dv : Value) : ∀ i, (z_mf T cA comp N M dv i).heap.size = T.heap.size + 1 + i ∧ (z_mf T cA comp N M dv i).vm = T.vm ∧ (z_mf T cA comp N M dv i).slotsUsed = T.slotsUsed + N + i * M ∧ (z_mf T cA comp N M dv i).heap[T.heap.size]? = some (z_oC cA N T.heap.size i)
  | 0 => ⟨by simp [z_mf], rfl, by simp [z_mf, z_oC, arrV_size], by simp [z_mf]⟩
  | i + 1 => by
    obtain ⟨h1, h2, h3, h4⟩ := z_mf_ok T cA comp N M dv i
    have hlt : T.heap.size < (z_mf T cA comp N M dv i).heap.size := by omega
    have h5 : ((z_mf T cA comp N M dv i).pushCell (z_iC comp M dv)).heap[T.heap.size]? = some (z_oC cA N T.heap.size i) := by
      rw [State.heap_pushCell_of_lt (h := hlt)]
      exact h4
    refine ⟨?_, ?_, ?_, State.heap_setCell_self h5⟩
    · simp only [z_mf, State.setCell, State.heap_pushCell, Array.size_push, h1, Array.size_setIfInBounds]
      omega
    · simp [z_mf, h2]
    · simp [z_mf, h3, z_iC, arrV_size, Nat.succ_mul]
      omega
theorem z_mf_old (T : State) (cA comp : ClassId) (N M : Nat) (dv : Value) {a : Nat} (ha : a < T.heap.size) : ∀ i, (z_mf T cA comp N M dv i).heap[a]? = T.heap[a]?
  | 0 => State.heap_pushCell_of_lt _ _ ha
  | i + 1 => by
    have h1 := (z_mf_ok T cA comp N M dv i).1
    have hlt : a < (z_mf T cA comp N M dv i).heap.size := by omega
    show (((z_mf T cA comp N M dv i).pushCell (z_iC comp M dv)).setCell T.heap.size _).heap[a]? = _
    rw [State.heap_setCell_other (Nat.ne_of_gt ha), State.heap_pushCell_of_lt (h := hlt)]
    exact z_mf_old T cA comp N M dv ha i
theorem z_mf_in (T : State) (cA comp : ClassId) (N M : Nat) (dv : Value) : ∀ i j, j < i → (z_mf T cA comp N M dv i).heap[T.heap.size + 1 + j]? = some (z_iC comp M dv)
  | 0, _, h => absurd h (Nat.not_lt_zero _)
  | i + 1, j, h => by
    have h1 := (z_mf_ok T cA comp N M dv i).1
    show (((z_mf T cA comp N M dv i).pushCell (z_iC comp M dv)).setCell T.heap.size _).heap[T.heap.size + 1 + j]? = _
    rw [State.heap_setCell_other (show T.heap.size ≠ T.heap.size + 1 + j by omega)]
    by_cases hj : j < i
    · have hlt : T.heap.size + 1 + j < (z_mf T cA comp N M dv i).heap.size := by omega
      rw [State.heap_pushCell_of_lt (h := hlt)]
      exact z_mf_in T cA comp N M dv i j hj
    · have e1 : T.heap.size + 1 + j = (z_mf T cA comp N M dv i).heap.size := by omega
      rw [e1]
      exact State.heap_pushCell_size _ _
theorem z_mf_top (T : State) (f : JFrame) (cA comp : ClassId) (N M : Nat) (dv : Value) : ∀ i, z_mf (T.setTop f) cA comp N M dv i = (z_mf T cA comp N M dv i).setTop f
  | 0 => rfl
  | i + 1 => by simp only [z_mf, z_mf_top T f cA comp N M dv i, State.heap_setTop, State.pushCell_setTop, State.setCell_setTop]
section ZML
variable {p : Program} {l : Launch} {e : Env} {R : Room} {s : State} {m : MethodId} {args : Array Value} {below : List Frame} {meth : Method} {c : Code} {T : State} {locs : List Loc} {cells slots : Nat}
theorem z_mf_stand (X : Stand p l e R s m args below meth c T locs cells slots) (cA comp : ClassId) (N M : Nat) (dv : Value) : ∀ i, Stand p l e R s m args below meth c (z_mf T cA comp N M dv i) locs (cells + 1 + i) (slots + N + i * M)
  | 0 => by
    have h := X.pushed (z_oC cA N T.heap.size 0)
    rw [show (z_oC cA N T.heap.size 0).slots.size = N from arrV_size _ _ _] at h
    simpa [z_mf] using h
  | i + 1 => by
    have Xi := z_mf_stand X cA comp N M dv i
    obtain ⟨h1, h2, h3, h4⟩ := z_mf_ok T cA comp N M dv i
    have hlt : T.heap.size < (z_mf T cA comp N M dv i).heap.size := by omega
    have h5 : ((z_mf T cA comp N M dv i).pushCell (z_iC comp M dv)).heap[T.heap.size]? = some (z_oC cA N T.heap.size i) := by
      rw [State.heap_pushCell_of_lt (h := hlt)]
      exact h4
    have h := ((Xi.pushed (z_iC comp M dv)).stored h5 i (.ref (T.heap.size + 1 + i))).dropFresh (fun x hx => by
      rcases List.mem_cons.mp hx with rfl | hx
      · exact X.heapGrown
      · cases hx)
    rw [show (z_iC comp M dv).slots.size = M from arrV_size _ _ _, z_oC_succ] at h
    rw [show slots + N + (i + 1) * M = slots + N + i * M + M by rw [Nat.succ_mul]; omega]
    exact h
end ZML
section ZMW
variable {E : CtlPost} {e : Env} {d : Bool} {acts : List Action} {s : State}
theorem z_mkrow {c comp : ClassId} {k : Class} {ty : FieldType} {len : Nat} {init : Value} (hk : s.vm.classes[c]? = some k) (hkind : k.kind = .array comp ty) (hlim : ¬ len > e.platform.arrayLengthLimit) (hheap : ¬ len * componentBytes ty > e.platform.maxHeapBytes) (hfit : fits ty init = true) (hdef : init.isDefault = true) {Q : Addr → Pre}
    (h1 : s.heap.size < e.platform.maxCells) (h2 : s.slotsUsed + len ≤ e.platform.maxSlots) (hq : Q s.heap.size d acts (s.pushCell { cls := c, slots := Array.replicate len init, vm := .none })) : wp (Jvm.newArray c len init) Q E e d acts s := by
  have hf : ∀ i v, (Array.replicate len init)[i]? = some v → s.fitsSlot c .none i v = true := by
    intro i v hv
    rw [Array.getElem?_replicate] at hv
    split at hv
    · cases hv
      simp [State.fitsSlot, State.slotType?, hk, hkind, hfit]
    · cases hv
  have ha : allocActs (Array.replicate len init) s.heap.size acts = acts := by
    have hall : ((Array.replicate len init).all (·.isDefault)) = true := by
      rw [Array.all_replicate]
      split <;> simp [hdef]
    unfold allocActs
    rw [if_pos hall]
  simp only [Jvm.newArray, Jvm.arrayFits, wp_bind', _root_.Jvm.W.ask, _root_.Jvm.W.ite, hlim, if_false, wp_pure', _root_.Jvm.W.theClass, hk, hkind, hheap, _root_.Jvm.W.alloc, _root_.Jvm.W.stop, Option.some.injEq, exists_eq_left', Array.size_replicate, ha]
  rw [if_neg (by omega)]
  exact ⟨h1, h2, hf, hq⟩
theorem z_mk1 {comp cc : ClassId} {kc : Class} {ty : FieldType} {m : Int32} (hkc : s.vm.classes[comp]? = some kc) (hkind : kc.kind = .array cc ty) (hm : ¬ m < 0) (hl : ¬ m.toNatClampNeg > e.platform.arrayLengthLimit) (hh : ¬ m.toNatClampNeg * componentBytes ty > e.platform.maxHeapBytes) (hdf : fits ty (defaultValue ty) = true) (hdd : (defaultValue ty).isDefault = true)
    (h1 : s.heap.size < e.platform.maxCells) (h2 : s.slotsUsed + m.toNatClampNeg ≤ e.platform.maxSlots) {Q : Addr → Pre} (hq : Q s.heap.size d acts (s.pushCell (z_iC comp m.toNatClampNeg (defaultValue ty)))) : wp (multianewarray.make comp [m]) Q E e d acts s := by
  rw [multianewarray.make]
  simp only [wp_bind', _root_.Jvm.W.ite, hm, if_false, wp_pure', _root_.Jvm.W.theClass, hkc, hkind, Option.some.injEq, exists_eq_left']
  refine z_mkrow hkc hkind hl hh hdf hdd h1 h2 ?_
  rw [arrV_new]
  exact hq
theorem z_mk2 {cA comp cc : ClassId} {k kc : Class} {t0 ty : FieldType} {n m : Int32} (hk : s.vm.classes[cA]? = some k) (hkind : k.kind = .array comp t0) (hfr : ∀ v : Value, (v = .null ∨ ∃ a, v = .ref a) → fits t0 v = true) (hkc : s.vm.classes[comp]? = some kc) (hkindc : kc.kind = .array cc ty) (hn : ¬ n < 0) (hm : ¬ m < 0)
    (hl1 : ¬ n.toNatClampNeg > e.platform.arrayLengthLimit) (hh1 : ¬ n.toNatClampNeg * componentBytes t0 > e.platform.maxHeapBytes) (hl2 : ¬ m.toNatClampNeg > e.platform.arrayLengthLimit) (hh2 : ¬ m.toNatClampNeg * componentBytes ty > e.platform.maxHeapBytes) (hdf : fits ty (defaultValue ty) = true) (hdd : (defaultValue ty).isDefault = true)
    (hc : s.heap.size + 1 + n.toNatClampNeg ≤ e.platform.maxCells) (hs : s.slotsUsed + n.toNatClampNeg + n.toNatClampNeg * m.toNatClampNeg ≤ e.platform.maxSlots) {Q : Addr → Pre}
    (hq : ∀ d' acts', Q s.heap.size d' acts' (z_mf s cA comp n.toNatClampNeg m.toNatClampNeg (defaultValue ty) n.toNatClampNeg)) : wp (multianewarray.make cA [n, m]) Q E e d acts s := by
  have hfind : ([m].find? (· < 0)) = none := by simp [hm]
  rw [multianewarray.make]
  simp only [wp_bind', _root_.Jvm.W.ite, hn, if_false, wp_pure', _root_.Jvm.W.theClass, hk, hkind, Option.some.injEq, exists_eq_left']
  refine z_mkrow hk hkind hl1 hh1 (hfr _ (Or.inl rfl)) rfl (by omega) (Nat.le_trans (Nat.le_add_right _ _) hs) ?_
  rw [z_oC_nil cA n.toNatClampNeg s.heap.size]
  simp only [hfind]
  rw [ite_self, wp_bind', Std.Legacy.Range.forIn_eq_forIn_range']
  rw [show ([:n.toNatClampNeg] : Std.Legacy.Range).size = n.toNatClampNeg by simp [Std.Legacy.Range.size]]
  show wp (forIn (List.range' 0 n.toNatClampNeg 1) PUnit.unit _) _ E e d acts _
  refine wp_forIn_inv (fun rest s' => ∃ i, i ≤ n.toNatClampNeg ∧ rest = List.range' i (n.toNatClampNeg - i) ∧ s' = z_mf s cA comp n.toNatClampNeg m.toNatClampNeg (defaultValue ty) i) _ _ ⟨0, Nat.zero_le _, rfl, rfl⟩ ?_ ?_
  · intro x rest s' d' acts' Q' hI hnext
    obtain ⟨i, hi, hl, rfl⟩ := hI
    have hlt : i < n.toNatClampNeg := by
      rcases Nat.lt_or_ge i n.toNatClampNeg with h | h
      · exact h
      · rw [show n.toNatClampNeg - i = 0 by omega] at hl
        cases hl
    have hx : x = i ∧ rest = List.range' (i + 1) (n.toNatClampNeg - (i + 1)) := by
      rw [show n.toNatClampNeg - i = (n.toNatClampNeg - (i + 1)) + 1 by omega, List.range'_succ] at hl
      exact ⟨(List.cons.inj hl).1, (List.cons.inj hl).2⟩
    obtain ⟨rfl, hrest⟩ := hx
    obtain ⟨f1, f2, f3, f4⟩ := z_mf_ok s cA comp n.toNatClampNeg m.toNatClampNeg (defaultValue ty) x
    have hmul : x * m.toNatClampNeg + m.toNatClampNeg ≤ n.toNatClampNeg * m.toNatClampNeg := by
      have := Nat.mul_le_mul_right m.toNatClampNeg (show x + 1 ≤ n.toNatClampNeg from hlt)
      rw [Nat.succ_mul] at this
      exact this
    simp only [wp_bind']
    refine z_mk1 (by rw [f2]; exact hkc) hkindc hm hl2 hh2 hdf hdd (by rw [f1]; omega) (by rw [f3]; omega) ?_
    have hlt0 : s.heap.size < (z_mf s cA comp n.toNatClampNeg m.toNatClampNeg (defaultValue ty) x).heap.size := by rw [f1]; omega
    simp only [wp_bind', _root_.Jvm.W.writeLoc, wp_pure']
    refine ⟨z_oC cA n.toNatClampNeg s.heap.size x, by rw [State.heap_pushCell_of_lt (h := hlt0)]; exact f4, by simp [z_oC, arrV], by rw [show (z_oC cA n.toNatClampNeg s.heap.size x).slots.size = n.toNatClampNeg from arrV_size _ _ _]; exact hlt, ?_, hnext _ _ _ ⟨x + 1, hlt, hrest, ?_⟩⟩
    · simp [z_oC, arrV, State.fitsSlot, State.slotType?, f2, hk, hkind, hfr _ (Or.inr ⟨_, rfl⟩)]
    · rw [f1, z_oC_succ]
      rfl
  · intro s' d' acts' hI
    obtain ⟨i, hi, hl, rfl⟩ := hI
    have hz : n.toNatClampNeg - i = 0 := by
      have := congrArg List.length hl
      simpa using this.symm
    have e1 : i = n.toNatClampNeg := by omega
    rw [e1]
    exact hq _ _
end ZMW
