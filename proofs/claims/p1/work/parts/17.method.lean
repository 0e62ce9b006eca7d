/-! A METHOD'S BEGINNING AND END -/
section ZM
variable {p : Program} {l : Launch} {e : Env} {R : Room} {s : State} {m : MethodId} {args : Array Value} {below : List Frame} {meth : Method} {c : Code} {Q : State → Prop} {D : va_G} {cl : List vw_C} {A : Nat → Prop} {ft : List FieldType} {ρ : Nat → Int32} {b nL : Nat} {ad0 : List Nat}
variable {pc : Nat} {cc : ByteArray}
theorem z_cats_eq {ad : List Nat} : ∀ {as : List zV} {vs : List Value}, zl (zv ρ b ad) as vs → (vs.map fun v => v.category).sum = z_cats as
  | [], [], _ => rfl
  | [], _ :: _, h => h.elim
  | _ :: _, [], h => h.elim
  | a :: as, v :: vs, h => by
    have ih := z_cats_eq h.2
    have e1 := zv_cat h.1
    simp only [List.map_cons, List.sum_cons, z_cats, ih]
    congr 1
    rcases lv_cat v with h1 | h1
    · rw [h1] at e1 ⊢
      rw [if_neg (by rw [← e1]; decide)]
    · rw [h1] at e1 ⊢
      rw [if_pos (by rw [← e1]; decide)]
theorem z_sl_len : ∀ (vs : List Value), (lg_sl vs).length = (vs.map fun v => v.category).sum
  | [] => rfl
  | v :: vs => by
    have ih := z_sl_len vs
    unfold lg_sl at ih ⊢
    rw [List.flatMap_cons, List.length_append, ih, List.map_cons, List.sum_cons]
    congr 1
    rcases lv_cat v with h1 | h1
    · rw [if_neg (by omega), h1]
      rfl
    · rw [if_pos h1, h1]
      rfl
theorem zl_args {ad : List Nat} : ∀ {k : Nat} {as : List zV} {vs : List Value}, zl (zv ρ b ad) as vs → zl (fun x y => x.1 = y.1 ∧ zv ρ b ad x.2 y.2) (z_args k as) (lv_args k vs)
  | _, [], [], _ => trivial
  | _, [], _ :: _, h => h.elim
  | _, _ :: _, [], h => h.elim
  | k, a :: as, v :: vs, h => by
    refine ⟨⟨rfl, h.1⟩, ?_⟩
    have e1 := zv_cat h.1
    have e2 : (if v.category = 2 then k + 2 else k + 1) = (if z_isL a then k + 2 else k + 1) := by
      rw [← e1]
      by_cases h2 : v.category = 2
      · rw [if_pos h2, if_pos (beq_iff_eq.mpr h2)]
      · rw [if_neg h2, if_neg (fun z => h2 (beq_iff_eq.mp z))]
    show zl _ (z_args (if z_isL a then k + 2 else k + 1) as) (lv_args (if v.category = 2 then k + 2 else k + 1) vs)
    rw [e2]
    exact zl_args h.2
/-- from a method's entry -/
theorem zk_entry {as : List zV} {vs : List Value} {ws : va_W} {tys : List (ClassId × FieldType)} {S : zS} (hk : zgo p l e R s m args below meth c Q D cl A ft ρ b nL ad0 0 (z_args 0 as, [], S)) (hS0 : S.2.2.1 = 0) (hS1 : S.2.2.2 = 0) (hn : z_cats as ≤ nL) (hP : va_P D cl ws s.heap) (hD : va_D A ws) (hK : va_K D cl tys s) (hw : zw ft ρ b S ws tys) (had : ∀ i a : Nat, ad0[i]? = some a → (ws.map (fun q => q.1))[i]? = some a) (ha : zl (zv ρ b (ws.map (fun q => q.1))) as vs) :
    W p l e R s m args below meth c s.heap [] 0 0 Q (entryFrame m vs.toArray nL) := by
  rw [lg_entry_eq]
  have hl := lv_entry vs (n := nL) (by rw [z_sl_len, z_cats_eq ha]; exact hn)
  have := hk ws tys s.heap [] _ _ [] hP hD hK va_S.rf hw had hl (zl_args ha) trivial
  rw [hS0, hS1] at this
  exact this
/-- the end: an int -/
theorem zk_iret {v : zV} {ls0 : zL} {S : zS} (hx : p.tables.exec = Jvm.exec) (hb : c.code = cc) (hlocks : meth.locks = false) (hr : meth.sig.returnType = some .int) (hd : decode cc pc = .ok (.ireturn, 1)) (hI : z_isI v = true) :
    zgo p l e R s m args below meth c (MQ below (fun _ => zQ D cl ft ρ b A ad0 (1, v, [], [], S)) args s S.2.2.1 S.2.2.2 A) D cl A ft ρ b nL ad0 pc (ls0, [v], S) := by
  intro ws tys H locs ls lv st hP hD hK hS hw had hl hlv hst
  match st, hst with
  | [w], hst =>
    obtain ⟨x, rfl⟩ := zv_I hst.1 hI
    exact W.iret hx hb hr (fun t ht hW => ⟨ws, tys, ⟨_, rfl, hst.1⟩, by rw [ht]; exact hP, va_K.moved hW.alike hK, hD, hw, had, hS.F ht⟩) hS.2.2 hd hlocks
theorem zk_lret {v : zV} {ls0 : zL} {S : zS} (hx : p.tables.exec = Jvm.exec) (hb : c.code = cc) (hlocks : meth.locks = false) (hr : meth.sig.returnType = some .long) (hd : decode cc pc = .ok (.lreturn, 1)) (hI : z_isL v = true) :
    zgo p l e R s m args below meth c (MQ below (fun _ => zQ D cl ft ρ b A ad0 (1, v, [], [], S)) args s S.2.2.1 S.2.2.2 A) D cl A ft ρ b nL ad0 pc (ls0, [v], S) := by
  intro ws tys H locs ls lv st hP hD hK hS hw had hl hlv hst
  match st, hst with
  | [w], hst =>
    obtain ⟨x, rfl⟩ := zv_L hst.1 hI
    exact W.lret hx hb hr (fun t ht hW => ⟨ws, tys, ⟨_, rfl, hst.1⟩, by rw [ht]; exact hP, va_K.moved hW.alike hK, hD, hw, had, hS.F ht⟩) hS.2.2 hd hlocks
theorem zk_zret {v : zV} {ls0 : zL} {S : zS} (hx : p.tables.exec = Jvm.exec) (hb : c.code = cc) (hlocks : meth.locks = false) (hr : meth.sig.returnType = some .boolean) (hd : decode cc pc = .ok (.ireturn, 1)) (h0 : v.1 = 0) (h1 : v.2 ≤ 1) :
    zgo p l e R s m args below meth c (MQ below (fun _ => zQ D cl ft ρ b A ad0 (1, v, [], [], S)) args s S.2.2.1 S.2.2.2 A) D cl A ft ρ b nL ad0 pc (ls0, [v], S) := by
  intro ws tys H locs ls lv st hP hD hK hS hw had hl hlv hst
  match st, hst with
  | [w], hst =>
    obtain ⟨t0, k⟩ := v
    dsimp only at h0 h1
    subst h0
    have e1 : w = .int (nI k) := hst.1
    subst e1
    have hn : narrow .boolean (.int (nI k)) = .int (nI k) := by
      have : k = 0 ∨ k = 1 := by omega
      rcases this with rfl | rfl <;> decide +kernel
    exact W.zret hx hb hr hn (fun t ht hW => ⟨ws, tys, ⟨_, rfl, rfl⟩, by rw [ht]; exact hP, va_K.moved hW.alike hK, hD, hw, had, hS.F ht⟩) hS.2.2 hd hlocks
theorem zk_aret {v : zV} {ls0 : zL} {S : zS} {rt : FieldType} (hx : p.tables.exec = Jvm.exec) (hb : c.code = cc) (hlocks : meth.locks = false) (hr : meth.sig.returnType = some rt) (hrt : (∃ n, rt = .object n) ∨ ∃ t, rt = .array t) (hd : decode cc pc = .ok (.areturn, 1)) (h5 : v.1 = 5 ∨ v.1 = 6) :
    zgo p l e R s m args below meth c (MQ below (fun _ => zQ D cl ft ρ b A ad0 (1, v, [], [], S)) args s S.2.2.1 S.2.2.2 A) D cl A ft ρ b nL ad0 pc (ls0, [v], S) := by
  intro ws tys H locs ls lv st hP hD hK hS hw had hl hlv hst
  match st, hst with
  | [w], hst =>
    have hv : w = .null ∨ ∃ a, w = .ref a := by
      obtain ⟨t0, k⟩ := v
      dsimp only at h5
      rcases h5 with rfl | rfl
      · exact Or.inl hst.1
      · obtain ⟨a, -, h⟩ := hst.1
        exact Or.inr ⟨a, h⟩
    exact W.aret hx hb hr hrt hv (fun t ht hW => ⟨ws, tys, ⟨_, rfl, hst.1⟩, by rw [ht]; exact hP, va_K.moved hW.alike hK, hD, hw, had, hS.F ht⟩) hS.2.2 hd hlocks
theorem zk_vret {ls0 : zL} {S : zS} (hx : p.tables.exec = Jvm.exec) (hb : c.code = cc) (hlocks : meth.locks = false) (hr : meth.sig.returnType = none) (hd : decode cc pc = .ok (.return_, 1)) :
    zgo p l e R s m args below meth c (MQ below (fun _ => zQ D cl ft ρ b A ad0 (2, (0, 0), [], [], S)) args s S.2.2.1 S.2.2.2 A) D cl A ft ρ b nL ad0 pc (ls0, [], S) := by
  intro ws tys H locs ls lv st hP hD hK hS hw had hl hlv hst
  match st, hst with
  | [], hst => exact W.vret hx hb hr (fun t ht hW => ⟨ws, tys, rfl, by rw [ht]; exact hP, va_K.moved hW.alike hK, hD, hw, had, hS.F ht⟩) hS.2.2 hd hlocks
end ZM
