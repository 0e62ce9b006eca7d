/-! NEW ROWS OF ROWS: the fact of the instruction -/
theorem z_cadds_eq : ∀ (n : Nat) (h : List (List zC)) (c : zC), z_sh h → z_flat (z_cadds h c n) = z_flat h ++ List.replicate n c ∧ z_sh (z_cadds h c n)
  | 0, h, c, hs => ⟨by simp [z_cadds], hs⟩
  | n + 1, h, c, hs => by
    obtain ⟨i1, i2⟩ := z_cadd_eq h c hs
    obtain ⟨j1, j2⟩ := z_cadds_eq n (z_cadd h c) c i2
    refine ⟨?_, j2⟩
    show z_flat (z_cadds (z_cadd h c) c n) = _
    rw [j1, i1, List.append_assoc, List.replicate_succ]
    rfl
theorem z_refs_at : ∀ (n a j : Nat) (v : zV), z_at (z_refs a n) j = some v → j < n ∧ v = (6, a + j)
  | 0, _, _, _, h => by
    unfold z_refs z_at at h
    cases h
  | n + 1, a, 0, v, h => by
    cases h
    exact ⟨by omega, rfl⟩
  | n + 1, a, j + 1, v, h => by
    obtain ⟨h1, h2⟩ := z_refs_at n (a + 1) j v h
    exact ⟨by omega, by rw [h2]; congr 1; omega⟩
def z_adr (e : va_E) : Nat → Nat → va_W
  | _, 0 => []
  | a, n + 1 => (a, e) :: z_adr e (a + 1) n
theorem z_adr_len (e : va_E) : ∀ (n a : Nat), (z_adr e a n).length = n
  | 0, _ => rfl
  | n + 1, a => congrArg (· + 1) (z_adr_len e n (a + 1))
theorem z_adr_get (e : va_E) : ∀ (n a j : Nat), j < n → (z_adr e a n)[j]? = some (a + j, e)
  | 0, _, _, h => absurd h (Nat.not_lt_zero _)
  | n + 1, a, 0, _ => rfl
  | n + 1, a, j + 1, h => by
    have := z_adr_get e n (a + 1) j (by omega)
    show (z_adr e (a + 1) n)[j]? = _
    rw [this]
    congr 2
    omega
def z_outE (cA : ClassId) (N h : Nat) : va_E := .inl (cA, (N, .inr (.inr (.inr (.inr (fun j => if j < N then some (h + 1 + j) else none))))))
def z_inE (comp : ClassId) (M : Nat) : va_E := .inl (comp, (M, .inl (fun _ => 0)))
/-- the new things' places in the world -/
def z_newW (cA comp : ClassId) (N M h : Nat) : va_W := (h, z_outE cA N h) :: z_adr (z_inE comp M) (h + 1) N
theorem z_newW_get {cA comp : ClassId} {N M h j : Nat} {q : Nat × va_E} (hq : (z_newW cA comp N M h)[j]? = some q) : q.1 = h + j ∧ j ≤ N ∧ ((j = 0 ∧ q.2 = z_outE cA N h) ∨ (0 < j ∧ q.2 = z_inE comp M)) := by
  cases j with
  | zero =>
    cases hq
    exact ⟨rfl, Nat.zero_le _, Or.inl ⟨rfl, rfl⟩⟩
  | succ j =>
    have hq : (z_adr (z_inE comp M) (h + 1) N)[j]? = some q := hq
    have hl : j < N := by
      have := (List.getElem?_eq_some_iff.mp hq).1
      rwa [z_adr_len] at this
    rw [z_adr_get _ _ _ _ hl] at hq
    cases hq
    exact ⟨by show h + 1 + j = _; omega, hl, Or.inr ⟨by omega, rfl⟩⟩
theorem z_newW_at {cA comp : ClassId} {N M h j : Nat} (hj : j ≤ N) : ∃ e, (z_newW cA comp N M h)[j]? = some (h + j, e) := by
  cases j with
  | zero => exact ⟨_, rfl⟩
  | succ j =>
    refine ⟨z_inE comp M, ?_⟩
    show (z_adr (z_inE comp M) (h + 1) N)[j]? = _
    rw [z_adr_get _ _ _ _ hj]
    congr 2
    omega
theorem z_multi_zw {ft : List FieldType} {ρ : Nat → Int32} {b : Nat} {S : zS} {ws : va_W} {tys : List (ClassId × FieldType)} {cA comp : ClassId} {N M h ta tb u v : Nat} (hw : zw ft ρ b S ws tys) :
    zw ft ρ b (z_cadds (z_cadd S.1 (6, z_len S.2.1, N, z_refs (z_clen S.1 + 1) N)) (z_row 0 M (z_len S.2.1 + 1)) N, S.2.1 ++ [ta, tb], u, v) (ws ++ z_newW cA comp N M h) (tys ++ [(cA, z_ty ft ta), (comp, z_ty ft tb)]) := by
  obtain ⟨h1, h2, h3, h4⟩ := hw
  obtain ⟨i1, i2⟩ := z_cadd_eq S.1 (6, z_len S.2.1, N, z_refs (z_clen S.1 + 1) N) h1
  obtain ⟨j1, j2⟩ := z_cadds_eq N (z_cadd S.1 (6, z_len S.2.1, N, z_refs (z_clen S.1 + 1) N)) (z_row 0 M (z_len S.2.1 + 1)) i2
  have hlen : tys.length = z_len S.2.1 := by
    rw [z_len_eq]
    have := congrArg List.length h2
    rwa [List.length_map, List.length_map] at this
  have hcl : z_clen S.1 = ws.length := by rw [z_clen_eq]; exact h3.symm
  have hpre : ∀ (k a : Nat), (ws.map (fun q => q.1))[k]? = some a → ((ws ++ z_newW cA comp N M h).map (fun q => q.1))[k]? = some a := fun k a hk => by
    rw [List.map_append, List.getElem?_append_left (List.getElem?_eq_some_iff.mp hk).1]
    exact hk
  have htp : ∀ (k : Nat) (t : ClassId × FieldType), tys[k]? = some t → (tys ++ [(cA, z_ty ft ta), (comp, z_ty ft tb)])[k]? = some t := fun k t hk => by
    rw [List.getElem?_append_left (List.getElem?_eq_some_iff.mp hk).1]
    exact hk
  have ht0 : (tys ++ [(cA, z_ty ft ta), (comp, z_ty ft tb)])[z_len S.2.1]? = some (cA, z_ty ft ta) := by
    rw [List.getElem?_append_right (by omega), hlen, Nat.sub_self]
    rfl
  have ht1 : (tys ++ [(cA, z_ty ft ta), (comp, z_ty ft tb)])[z_len S.2.1 + 1]? = some (comp, z_ty ft tb) := by
    rw [List.getElem?_append_right (by omega), hlen, show z_len S.2.1 + 1 - z_len S.2.1 = 1 by omega]
    rfl
  refine ⟨j2, ?_, ?_, fun k c hk => ?_⟩
  · show (tys ++ [(cA, z_ty ft ta), (comp, z_ty ft tb)]).map (fun q => q.2) = (S.2.1 ++ [ta, tb]).map (z_ty ft)
    rw [List.map_append, List.map_append, h2]
    rfl
  · show (ws ++ z_newW cA comp N M h).length = (z_flat (z_cadds _ _ N)).length
    rw [j1, i1, List.length_append, List.length_append, List.length_append, List.length_replicate, h3]
    show _ + ((z_adr (z_inE comp M) (h + 1) N).length + 1) = _
    rw [z_adr_len]
    show _ = _ + 1 + N
    omega
  · have hk : (z_flat (z_cadds _ _ N))[k]? = some c := hk
    rw [j1, i1] at hk
    by_cases hl : k < (z_flat S.1).length
    · rw [List.append_assoc, List.getElem?_append_left hl] at hk
      obtain ⟨q, q1, q2⟩ := h4 k c hk
      exact ⟨q, by rw [List.getElem?_append_left (by omega)]; exact q1, zc_more q2 hpre htp⟩
    · rw [List.append_assoc, List.getElem?_append_right (by omega)] at hk
      obtain ⟨j, hj⟩ : ∃ j, k = ws.length + j := ⟨k - ws.length, by omega⟩
      subst hj
      rw [← h3, show ws.length + j - ws.length = j by omega] at hk
      have hjN : j ≤ N := by
        have := (List.getElem?_eq_some_iff.mp hk).1
        rw [List.length_append, List.length_replicate] at this
        have h5 : [(6, z_len S.2.1, N, z_refs (z_clen S.1 + 1) N)].length = 1 := rfl
        omega
      obtain ⟨e, he⟩ := z_newW_at (cA := cA) (comp := comp) (N := N) (M := M) (h := h) hjN
      refine ⟨(h + j, e), by rw [List.getElem?_append_right (by omega), show ws.length + j - ws.length = j by omega]; exact he, ?_⟩
      obtain ⟨-, -, hc⟩ := z_newW_get he
      rcases hc with ⟨rfl, hc⟩ | ⟨hp, hc⟩
      · have hk : some (6, z_len S.2.1, N, z_refs (z_clen S.1 + 1) N) = some c := hk
        cases hk
        dsimp only at hc
        subst hc
        refine ⟨cA, _, z_ty ft ta, rfl, ht0, fun i v hv => ?_⟩
        obtain ⟨g1, rfl⟩ := z_refs_at N _ _ _ hv
        refine ⟨h + 1 + i, ?_, ?_⟩
        · obtain ⟨e9, he9⟩ := z_newW_at (cA := cA) (comp := comp) (N := N) (M := M) (h := h) (j := 1 + i) (by omega)
          show ((ws ++ z_newW cA comp N M h).map (fun q => q.1))[z_clen S.1 + 1 + i]? = _
          rw [hcl, List.getElem?_map, List.getElem?_append_right (by omega), show ws.length + 1 + i - ws.length = 1 + i by omega, he9]
          show some (h + (1 + i)) = _
          congr 1
          omega
        · show va_rf (if i < N then some (h + 1 + i) else none) = _
          rw [if_pos g1]
          rfl
      · cases j with
        | zero => omega
        | succ j =>
          have hk : (List.replicate N (z_row 0 M (z_len S.2.1 + 1)))[j]? = some c := hk
          have hc2 := List.eq_of_mem_replicate (List.mem_of_getElem? hk)
          subst hc2
          dsimp only at hc
          subst hc
          exact z_row0 ht1
section ZMI
variable {X : State → Nat → (Nat → Prop) → (Nat → Int32) → Prop} {own mn : String} {cc : ByteArray} {nL : Nat} {W0 : List Cond} {cl : List vw_C} {ft : List FieldType} {G : zG} {me : zP} {pc a a1 a2 : Nat}
theorem zi_multi {i : Nat} {ty : FieldType} (hd : decode cc pc = .ok (.multianewarray i 2, 4)) (hcl : Cond.classLink own i ("[" ++ (FieldType.array ty).toString) ∈ W0) (hover : Cond.arrayOver (.array ty) ∈ W0) (harr : Cond.arrayClass ty ∈ W0) (hta : z_ty ft a = .array ty) (htb : z_ty ft a1 = ty) (hdv : defaultValue ty = .int 0) (hcb : componentBytes ty ≤ 8) (hdf : fits ty (defaultValue ty) = true) (hra : ∀ (s : State) (comp : ClassId), s.vm.findClass (FieldType.array ty).toString = some comp → va_RA s comp ty) : zIok X own mn cc nL W0 cl ft G me (pc, 45, a, a1, a2) (pc + 4) := by
  intro p l e R s m args below meth c Q D A ρ b ad0 k hC hF hL he hX
  obtain ⟨hx, hb, hml, hown, hts, hA, hlocks, hmn⟩ := hC
  obtain ⟨ls0, st0, S⟩ := k
  match st0 with
  | [] => exact trivial
  | [_] => exact trivial
  | y :: x :: st0 =>
    show zres p l e R s m args below meth c Q D cl A ft ρ b nL ad0 me _ _ _ (match z_kn G.2.2.2 x, z_kn G.2.2.2 y with
      | some n, some m => if Nat.ble n 100 && Nat.ble m 600 then zn_on ls0 ((6, z_clen S.1) :: st0) (z_cadds (z_cadd S.1 (6, z_len S.2.1, n, z_refs (z_clen S.1 + 1) n)) (z_row 0 m (z_len S.2.1 + 1)) n, S.2.1 ++ [a, a1], S.2.2.1 + 1 + n, S.2.2.2 + n + n * m) else zn_bad (ls0, y :: x :: st0, S)
      | _, _ => zn_bad (ls0, y :: x :: st0, S))
    cases hkx : z_kn G.2.2.2 x with
    | none => exact trivial
    | some N =>
      cases hky : z_kn G.2.2.2 y with
      | none => exact trivial
      | some M =>
        dsimp only
        split
        · rename_i ht
          simp only [Bool.and_eq_true] at ht
          have hN : N ≤ 100 := Nat.le_of_ble_eq_true ht.1
          have hM : M ≤ 600 := Nat.le_of_ble_eq_true ht.2
          intro r1 r2 kk ws tys H locs ls lv st hP hD hK hS hw had hl hlv hst
          match st, hst with
          | wy :: wx :: st, hst =>
            have ey := zv_kn he hst.1 hky
            have ex := zv_kn he hst.2.1 hkx
            subst ey ex
            have hcM : M * componentBytes ty ≤ 4800 := Nat.le_trans (Nat.mul_le_mul hM hcb) (by omega)
            have r1 : S.2.2.1 + 1 + N ≤ R.cells := r1
            have r2 : S.2.2.2 + N + N * M ≤ R.slots := r2
            refine z_multiW hx hb hown (hts _ hcl) (hts _ hover) (hts _ harr) (nI_clamp (by omega)) (nI_clamp (by omega)) (nI_pos (by omega)) (nI_pos (by omega)) (by omega) (by omega) (by omega) hdf (by rw [hdv]; rfl) (by show S.2.2.1 + (1 + N) ≤ R.cells; omega) (by show S.2.2.2 + (N + N * M) ≤ R.slots; omega) hd (fun cA comp H1 g1 g2 g3 g4 g5 g6 g7 g8 => ?_)
            have hlt : ∀ (k : Nat) (q : Nat × va_E), ws[k]? = some q → q.1 < H.size := fun k q hq => (hP k q hq).lt
            have hz := z_multi_zw (cA := cA) (comp := comp) (N := N) (M := M) (h := H.size) (ta := a) (tb := a1) (u := S.2.2.1 + 1 + N) (v := S.2.2.2 + N + N * M) hw
            have hP0 : va_P D cl ws H1 := hP.kept (fun k q hq => g6 _ (hlt k q hq))
            have hP1 : va_P D cl (ws ++ z_newW cA comp N M H.size) H1 := hP0.app (fun k q hq => by
              obtain ⟨e1, e2, e3⟩ := z_newW_get hq
              obtain ⟨q1, q2⟩ := q
              dsimp only at e1 e3
              subst e1
              rcases e3 with ⟨rfl, rfl⟩ | ⟨h0, rfl⟩
              · show H1[H.size + 0]? = some (vp_cell cA _)
                rw [Nat.add_zero, g7, vp_cell_q]
                rfl
              · obtain ⟨j, rfl⟩ : ∃ j, k = j + 1 := ⟨k - 1, by omega⟩
                show H1[H.size + (j + 1)]? = some (vp_cell comp _)
                rw [show H.size + (j + 1) = H.size + 1 + j by omega, g8 j (by omega), hdv, vp_cell_i]
                rfl)
            have hget : ∀ (k : Nat) (q : Nat × va_E), (ws ++ z_newW cA comp N M H.size)[k]? = some q → (k < ws.length ∧ ws[k]? = some q) ∨ (ws.length ≤ k ∧ q.1 = H.size + (k - ws.length)) := fun k q hq => by
              by_cases hk : k < ws.length
              · rw [List.getElem?_append_left hk] at hq
                exact Or.inl ⟨hk, hq⟩
              · rw [List.getElem?_append_right (by omega)] at hq
                exact Or.inr ⟨by omega, (z_newW_get hq).1⟩
            have hD1 : va_D A (ws ++ z_newW cA comp N M H.size) := by
              refine ⟨fun i j u v hu hv huv => ?_, fun k q hq => ?_⟩
              · rcases hget i u hu with ⟨-, a1⟩ | ⟨a1, a2⟩
                · rcases hget j v hv with ⟨-, b1⟩ | ⟨b1, b2⟩
                  · exact hD.1 i j u v a1 b1 huv
                  · have := hlt i u a1
                    omega
                · rcases hget j v hv with ⟨-, b1⟩ | ⟨b1, b2⟩
                  · have := hlt j v b1
                    omega
                  · omega
              · rcases hget k q hq with ⟨-, a1⟩ | ⟨a1, a2⟩
                · exact hD.2 k q a1
                · exact hA _ (Nat.le_trans hS.1 (by omega))
            have hK1 : va_K D cl (tys ++ [(cA, z_ty ft a), (comp, z_ty ft a1)]) s := by
              refine ⟨hK.1, fun k q hq => ?_⟩
              by_cases hk : k < tys.length
              · rw [List.getElem?_append_left hk] at hq
                exact hK.2 k q hq
              · rw [List.getElem?_append_right (by omega)] at hq
                have h2 : k - tys.length < 2 := (List.getElem?_eq_some_iff.mp hq).1
                have h3 : k - tys.length = 0 ∨ k - tys.length = 1 := by omega
                rcases h3 with h3 | h3
                · rw [h3] at hq
                  cases hq
                  rw [hta]
                  exact ⟨g3, g1⟩
                · rw [h3] at hq
                  cases hq
                  rw [htb]
                  exact ⟨g4, hra s comp g2⟩
            have hS1 : va_S A s.heap H1 locs := ⟨Nat.le_trans hS.1 (by omega), fun q q1 q2 => (g6 q (Nat.lt_of_lt_of_le q1 hS.1)).trans (hS.2.1 q q1 q2), hS.2.2⟩
            have hcl9 : z_clen S.1 = ws.length := by rw [z_clen_eq]; exact hw.2.2.1.symm
            have hpre : ∀ (k a : Nat), (ws.map (fun q => q.1))[k]? = some a → ((ws ++ z_newW cA comp N M H.size).map (fun q => q.1))[k]? = some a := fun k a hk => by
              rw [List.map_append, List.getElem?_append_left (List.getElem?_eq_some_iff.mp hk).1]
              exact hk
            refine kk _ _ H1 locs ls lv _ hP1 hD1 hK1 hS1 hz (fun i a h => hpre _ _ (had i a h)) hl (zl_moreL hpre hlv) ⟨⟨H.size, ?_, rfl⟩, zl_more hpre hst.2.2⟩
            show ((ws ++ z_newW cA comp N M H.size).map (fun q => q.1))[z_clen S.1]? = some H.size
            rw [hcl9, List.getElem?_map, List.getElem?_append_right (Nat.le_refl _), Nat.sub_self]
            rfl
        · exact trivial
end ZMI
