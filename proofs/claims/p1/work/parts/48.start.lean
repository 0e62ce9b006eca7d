/-! THE LAW FROM ITS ENTRY -/
def zrs (L : Nat) (xs : Nat → Int32) (k : Nat) : Int32 := match k with
  | 0 => xs 0
  | 1 => xs 1
  | 2 => xs 2
  | 3 => xs 3
  | 4 => xs 4
  | 5 => xs 5
  | 6 => xs 0 &&& 31
  | 7 => 0
  | 8 => 1
  | 9 => nI L
  | _ => 0
theorem zrs_0 (L : Nat) (xs : Nat → Int32) : ze (zrs L xs) [] := ⟨fun k q h => (by unfold z_at at h; cases h), rfl, by show (1 : Int32) = 0 + 1; decide +kernel⟩
theorem z_and31 (x : Int32) : 2147483648 ≤ zu (x &&& 31) ∧ zu (x &&& 31) ≤ 2147483679 := by
  have h1 : x = nI ((zu x + z_31) % z_32) := zu_back rfl
  generalize (zu x + z_31) % z_32 = n at h1
  have h2 : x &&& 31 = nI (n &&& 31) := by
    rw [h1]
    show Int32.ofNat n &&& Int32.ofNat 31 = Int32.ofNat (n &&& 31)
    rw [← Int32.toBitVec_inj]
    simp
  rw [h2, zu_nI]
  have h3 : n &&& 31 ≤ 31 := Nat.and_le_right
  unfold z_up z_31 z_32
  omega
theorem zrs_6 (xs : Nat → Int32) : ze (zrs 6 xs) zenv6 := by
  refine ⟨fun k q hq => ?_, (zrs_0 6 xs).2⟩
  have hall : ∀ x : Int32, 0 ≤ zu x ∧ zu x ≤ 4294967295 := fun x => ⟨Nat.zero_le _, by have := zu_lt32 x; omega⟩
  match k, hq with
  | 0, hq => cases hq; exact hall _
  | 1, hq => cases hq; exact hall _
  | 2, hq => cases hq; exact hall _
  | 3, hq => cases hq; exact hall _
  | 4, hq => cases hq; exact hall _
  | 5, hq => cases hq; exact hall _
  | 6, hq => cases hq; exact z_and31 (xs 0)
  | 7, hq => cases hq; exact hall _
  | 8, hq => cases hq; exact hall _
  | 9, hq => cases hq; exact (by decide +kernel : 2147483654 ≤ zu (nI 6) ∧ zu (nI 6) ≤ 2147483654)
  | k + 10, hq => exact absurd (show (none : Option (Nat × Nat)) = some q from hq) (by simp)
theorem zrs_s (L : Nat) (xs : Nat → Int32) (hL : L < 6) : ze (zrs L xs) [z_any, z_any, z_any, z_any, z_any, z_any, z_any, z_any, z_any, (2147483648 + L, 2147483648 + L)] := by
  refine ⟨fun k q hq => ?_, (zrs_0 L xs).2⟩
  have hall : ∀ x : Int32, 0 ≤ zu x ∧ zu x ≤ 4294967295 := fun x => ⟨Nat.zero_le _, by have := zu_lt32 x; omega⟩
  match k, hq with
  | 0, hq => cases hq; exact hall _
  | 1, hq => cases hq; exact hall _
  | 2, hq => cases hq; exact hall _
  | 3, hq => cases hq; exact hall _
  | 4, hq => cases hq; exact hall _
  | 5, hq => cases hq; exact hall _
  | 6, hq => cases hq; exact hall _
  | 7, hq => cases hq; exact hall _
  | 8, hq => cases hq; exact hall _
  | 9, hq =>
    cases hq
    show 2147483648 + L ≤ zu (nI L) ∧ zu (nI L) ≤ 2147483648 + L
    rw [zu_nI]
    unfold z_up z_31 z_32
    omega
  | k + 10, hq => exact absurd (show (none : Option (Nat × Nat)) = some q from hq) (by simp)
theorem zcase (L : Nat) (xs : Nat → Int32) (hL : L ≤ 6) : ∃ env, ze (zrs L xs) env ∧ zleaf env = true := by
  by_cases h6 : L = 6
  · subst h6
    obtain ⟨e, h1, h2⟩ := z_cov 2000 zcode6 zenv6 zall6 [] zlv6 (zrs_6 xs)
    exact ⟨e, h2, zall6_ok e h1⟩
  · refine ⟨_, zrs_s L xs (by omega), List.all_eq_true.mp zgr_0 _ ?_⟩
    have : L = 0 ∨ L = 1 ∨ L = 2 ∨ L = 3 ∨ L = 4 ∨ L = 5 := by omega
    rcases this with rfl | rfl | rfl | rfl | rfl | rfl <;> decide +kernel
def R_law : String := "TransportPairLaw"
def lw_P (b : Addr) (xs : List Int32) (args : Array Value) (s : State) : Prop := args = #[.ref b] ∧ s.IntsAt b xs ∧ xs.length ≤ 6 ∧ (Jvm.Cond.and given_1 narrow_1).before args s = true
def lw_Q (_ : Array Value) (s : State) (o : Outcome) (t : State) : Prop := o = .returned (some (.int 1)) ∧ Framed s o t [] 600002 7302232
def lw_Z (below : List Frame) (a : Array Value) (s : State) : State → Prop := fun t => ∃ o, t.status = .running ∧ Ended t below o ∧ lw_Q a s o t
def lw_At (p : Program) (l : Launch) (s : State) (m : MethodId) (meth : Method) (c : Code) (b L : Nat) (xs : Nat → Int32) : Prop :=
  p.tables.exec = Jvm.exec ∧ c.code = code ∧ meth.sig.returnType = ret ∧ c.maxLocals = 8 ∧ s.vm.findClass R_law = some m.cls ∧ (∀ w ∈ lw_tbl, w.before #[Value.ref b] s = true) ∧ va_X b L xs s s.heap ∧ b < s.heap.size ∧ meth.locks = false ∧ (Jvm.Cond.and given_1 narrow_1).before #[Value.ref b] s = true ∧ (Cond.code x code maxLocals ret).before #[Value.ref b] s = true ∧ c.exceptionTable.toList = [] ∧ meth.name = "law" ∧ l.stackTraces = false
theorem zknown {args : Array Value} {s : State} (hts : ∀ w ∈ lw_tbl, w.before args s = true) (k : Nat) (q : vw_C) (hq : zcl[k]? = some q) : ∃ p : ClassId × (Nat → Nat), u_Kn s q.1 q.2.1 q.2.2 p.1 p.2 := by
  match k, hq with
  | 0, hq => cases hq; obtain ⟨cC, iS, h⟩ := u_known (C := "TransportPair") (T := zF_0) (N := 8) (n := 8) hts (fun w h => (List.mem_filter.mp (zu_0 w h)).1) (hts _ (List.mem_append_right _ (zq_1 _ (List.mem_of_getElem? (i := 40) (by decide +kernel))))); exact ⟨(cC, iS), h⟩
  | 1, hq => cases hq; obtain ⟨cC, iS, h⟩ := u_known (C := "TransportPairModel") (T := zF_1) (N := 23) (n := 23) hts (fun w h => (List.mem_filter.mp (zu_1 w h)).1) (hts _ (List.mem_append_right _ (zq_10 _ (List.mem_of_getElem? (i := 233) (by decide +kernel))))); exact ⟨(cC, iS), h⟩
  | 2, hq => cases hq; obtain ⟨cC, iS, h⟩ := u_known (C := "TransportPair$Book") (T := zF_2) (N := 20) (n := 20) hts (fun w h => (List.mem_filter.mp (zu_2 w h)).1) (hts _ (List.mem_append_right _ (zq_2 _ (List.mem_of_getElem? (i := 9) (by decide +kernel))))); exact ⟨(cC, iS), h⟩
  | 3, hq => cases hq; obtain ⟨cC, iS, h⟩ := u_known (C := "TransportPair$Greeting") (T := zF_3) (N := 22) (n := 22) hts (fun w h => (List.mem_filter.mp (zu_3 w h)).1) (hts _ (List.mem_append_right _ (zq_3 _ (List.mem_of_getElem? (i := 31) (by decide +kernel))))); exact ⟨(cC, iS), h⟩
  | 4, hq => cases hq; obtain ⟨cC, iS, h⟩ := u_known (C := "TransportPair$Line") (T := zF_4) (N := 7) (n := 7) hts (fun w h => (List.mem_filter.mp (zu_4 w h)).1) (hts _ (List.mem_append_right _ (zq_1 _ (List.mem_of_getElem? (i := 202) (by decide +kernel))))); exact ⟨(cC, iS), h⟩
  | 5, hq => cases hq; obtain ⟨cC, iS, h⟩ := u_known (C := "TransportPair$Outbox") (T := zF_5) (N := 22) (n := 22) hts (fun w h => (List.mem_filter.mp (zu_5 w h)).1) (hts _ (List.mem_append_right _ (zq_4 _ (List.mem_of_getElem? (i := 4) (by decide +kernel))))); exact ⟨(cC, iS), h⟩
  | 6, hq => cases hq; obtain ⟨cC, iS, h⟩ := u_known (C := "TransportPair$Reader") (T := zF_6) (N := 21) (n := 21) hts (fun w h => (List.mem_filter.mp (zu_6 w h)).1) (hts _ (List.mem_append_right _ (zq_1 _ (List.mem_of_getElem? (i := 105) (by decide +kernel))))); exact ⟨(cC, iS), h⟩
  | 7, hq => cases hq; obtain ⟨cC, iS, h⟩ := u_known (C := "TransportPair$Receiving") (T := zF_7) (N := 13) (n := 13) hts (fun w h => (List.mem_filter.mp (zu_7 w h)).1) (hts _ (List.mem_append_right _ (zq_3 _ (List.mem_of_getElem? (i := 104) (by decide +kernel))))); exact ⟨(cC, iS), h⟩
  | 8, hq => cases hq; obtain ⟨cC, iS, h⟩ := u_known (C := "TransportPair$Seals") (T := zF_8) (N := 15) (n := 15) hts (fun w h => (List.mem_filter.mp (zu_8 w h)).1) (hts _ (List.mem_append_right _ (zq_1 _ (List.mem_of_getElem? (i := 48) (by decide +kernel))))); exact ⟨(cC, iS), h⟩
  | 9, hq => cases hq; obtain ⟨cC, iS, h⟩ := u_known (C := "TransportPair$Sending") (T := zF_9) (N := 15) (n := 15) hts (fun w h => (List.mem_filter.mp (zu_9 w h)).1) (hts _ (List.mem_append_right _ (zq_3 _ (List.mem_of_getElem? (i := 38) (by decide +kernel))))); exact ⟨(cC, iS), h⟩
  | 10, hq => cases hq; obtain ⟨cC, iS, h⟩ := u_known (C := "TransportPair$Side") (T := zF_10) (N := 22) (n := 22) hts (fun w h => (List.mem_filter.mp (zu_10 w h)).1) (hts _ (List.mem_append_right _ (zq_2 _ (List.mem_of_getElem? (i := 0) (by decide +kernel))))); exact ⟨(cC, iS), h⟩
  | 11, hq => cases hq; obtain ⟨cC, iS, h⟩ := u_known (C := "TransportPair$Space") (T := zF_11) (N := 21) (n := 21) hts (fun w h => (List.mem_filter.mp (zu_11 w h)).1) (hts _ (List.mem_append_right _ (zq_2 _ (List.mem_of_getElem? (i := 16) (by decide +kernel))))); exact ⟨(cC, iS), h⟩
  | 12, hq => cases hq; obtain ⟨cC, iS, h⟩ := u_known (C := "TransportPair$Streams") (T := zF_12) (N := 21) (n := 21) hts (fun w h => (List.mem_filter.mp (zu_12 w h)).1) (hts _ (List.mem_append_right _ (zq_2 _ (List.mem_of_getElem? (i := 186) (by decide +kernel))))); exact ⟨(cC, iS), h⟩
  | 13, hq => cases hq; obtain ⟨cC, iS, h⟩ := u_known (C := "TransportPairModel$Book") (T := zF_13) (N := 38) (n := 38) hts (fun w h => (List.mem_filter.mp (zu_13 w h)).1) (hts _ (List.mem_append_right _ (zq_12 _ (List.mem_of_getElem? (i := 49) (by decide +kernel))))); exact ⟨(cC, iS), h⟩
  | 14, hq => cases hq; obtain ⟨cC, iS, h⟩ := u_known (C := "TransportPairModel$Cargo") (T := zF_14) (N := 6) (n := 6) hts (fun w h => (List.mem_filter.mp (zu_14 w h)).1) (hts _ (List.mem_append_right _ (zq_12 _ (List.mem_of_getElem? (i := 237) (by decide +kernel))))); exact ⟨(cC, iS), h⟩
  | 15, hq => cases hq; obtain ⟨cC, iS, h⟩ := u_known (C := "TransportPairModel$Draft") (T := zF_15) (N := 2) (n := 2) hts (fun w h => (List.mem_filter.mp (zu_15 w h)).1) (hts _ (List.mem_append_right _ (zq_13 _ (List.mem_of_getElem? (i := 30) (by decide +kernel))))); exact ⟨(cC, iS), h⟩
  | 16, hq => cases hq; obtain ⟨cC, iS, h⟩ := u_known (C := "TransportPairModel$Greet") (T := zF_16) (N := 23) (n := 23) hts (fun w h => (List.mem_filter.mp (zu_16 w h)).1) (hts _ (List.mem_append_right _ (zq_13 _ (List.mem_of_getElem? (i := 47) (by decide +kernel))))); exact ⟨(cC, iS), h⟩
  | 17, hq => cases hq; obtain ⟨cC, iS, h⟩ := u_known (C := "TransportPairModel$Seals") (T := zF_17) (N := 25) (n := 25) hts (fun w h => (List.mem_filter.mp (zu_17 w h)).1) (hts _ (List.mem_append_right _ (zq_11 _ (List.mem_of_getElem? (i := 0) (by decide +kernel))))); exact ⟨(cC, iS), h⟩
  | 18, hq => cases hq; obtain ⟨cC, iS, h⟩ := u_known (C := "TransportPairModel$Side") (T := zF_18) (N := 53) (n := 53) hts (fun w h => (List.mem_filter.mp (zu_18 w h)).1) (hts _ (List.mem_append_right _ (zq_12 _ (List.mem_of_getElem? (i := 43) (by decide +kernel))))); exact ⟨(cC, iS), h⟩
  | 19, hq => cases hq; obtain ⟨cC, iS, h⟩ := u_known (C := "TransportPairModel$Streams") (T := zF_19) (N := 56) (n := 56) hts (fun w h => (List.mem_filter.mp (zu_19 w h)).1) (hts _ (List.mem_append_right _ (zq_11 _ (List.mem_of_getElem? (i := 99) (by decide +kernel))))); exact ⟨(cC, iS), h⟩
  | 20, hq => cases hq; obtain ⟨cC, iS, h⟩ := u_known (C := "TransportPairModel$Wire") (T := zF_20) (N := 10) (n := 10) hts (fun w h => (List.mem_filter.mp (zu_20 w h)).1) (hts _ (List.mem_append_right _ (zq_12 _ (List.mem_of_getElem? (i := 184) (by decide +kernel))))); exact ⟨(cC, iS), h⟩
  | k + 21, hq => exact absurd (show (none : Option vw_C) = some q from hq) (by simp)
theorem zknown2 {args : Array Value} {s : State} (hts : ∀ w ∈ lw_tbl, w.before args s = true) : ∃ D : va_G, va_K D zcl [] s := by
  have h : ∀ k : Nat, ∃ p : ClassId × (Nat → Nat), ∀ q : vw_C, zcl[k]? = some q → u_Kn s q.1 q.2.1 q.2.2 p.1 p.2 := by
    intro k
    cases hk : zcl[k]? with
    | none => exact ⟨(0, fun _ => 0), fun q hq => by cases hq⟩
    | some q0 =>
      obtain ⟨p, hp⟩ := zknown hts k q0 hk
      exact ⟨p, fun q hq => by cases hq; exact hp⟩
  obtain ⟨f, hf⟩ := Classical.axiomOfChoice h
  exact ⟨(fun k => (f k).1, fun k => (f k).2), fun k q hq => hf k q hq, fun k q hq => by simp at hq⟩
theorem zstart {p : Program} {l : Launch} {s : State} {m : MethodId} {meth : Method} {c : Code} {b L : Nat} {xs : Nat → Int32} (hL : L ≤ 6) (C0 : lw_At p l s m meth c b L xs) : zX s b (fun q => s.heap.size ≤ q) (zrs L xs) := by
  obtain ⟨hx, hb, hr, hml, hown, hts, hX, hbl, hlocks, hgv, hcw, het, hmn, hst⟩ := C0
  have hs := flat_of_before _ hgv
  have hA : ∀ a : Nat, a < s.heap.size → ¬ (fun q => s.heap.size ≤ q) a := fun a h => Nat.not_le.mpr h
  have h9 : (zrs L xs 9).toNatClampNeg = L := nI_clamp (by omega)
  refine ⟨⟨?_, by rw [h9]; exact hL, by rw [h9]; rfl⟩, hbl, Nat.not_le.mpr hbl, ⟨?_, ?_⟩, ?_, ?_⟩
  · rw [h9]
    obtain ⟨scr, g1, g2, g3, g4, g5⟩ := hX
    refine ⟨scr, g1, g2, g3, g4, fun j hj => ?_⟩
    rw [g5 j hj]
    have : j = 0 ∨ j = 1 ∨ j = 2 ∨ j = 3 ∨ j = 4 ∨ j = 5 := by omega
    rcases this with rfl | rfl | rfl | rfl | rfl | rfl <;> rfl
  · exact vx_Zqof (hts _ (List.mem_append_right _ (zq_4 _ (List.mem_of_getElem? (i := 224) (by decide +kernel))))) (hts _ (List.mem_append_right _ (zq_1 _ (List.mem_of_getElem? (i := 22) (by decide +kernel))))) (hs _ (by decide +kernel)) hA
  · exact vx_Zqof (hts _ (List.mem_append_right _ (zq_4 _ (List.mem_of_getElem? (i := 226) (by decide +kernel))))) (hts _ (List.mem_append_right _ (zq_1 _ (List.mem_of_getElem? (i := 22) (by decide +kernel))))) (hs _ (by decide +kernel)) hA
  · intro i j hi hj hij
    have hi : i = 0 ∨ i = 1 ∨ i = 2 := by omega
    have hj : j = 0 ∨ j = 1 ∨ j = 2 := by omega
    rcases hi with rfl | rfl | rfl <;> rcases hj with rfl | rfl | rfl <;> first | exact absurd rfl hij | exact va_Nc.of (args := #[Value.ref b]) (hs _ (by decide +kernel))
  · exact fun w hw => z_Nof (zn_nw hw) (hts w (List.mem_filter.mp hw).1)
theorem whole_start {p : Program} {e : Env} {s : State} {m : MethodId} {below : List Frame} {meth : Method} {c : Code} (l : Launch) {b L : Nat} {xs : Nat → Int32} (hL : L ≤ 6) (C0 : lw_At p l s m meth c b L xs) : W p l e room_1 s m #[Value.ref b] below meth c s.heap [] 0 0 (lw_Z below #[Value.ref b] s) (entryFrame m ([Value.ref b] : List Value).toArray 8) := by
  have hXX := zstart hL C0
  obtain ⟨hx, hb, hr, hml, hown, hts, hX, hbl, hlocks, hgv, hcw, het, hmn, hst⟩ := C0
  obtain ⟨D, hK⟩ := zknown2 hts
  obtain ⟨env, he, hlf⟩ := zcase L xs hL
  obtain ⟨o, ho, o1, o2, o3, o4⟩ := zleaf_ok hlf
  have hw : ∀ w ∈ zW 172, w.before #[Value.ref b] s = true := by
    intro w hw
    rcases List.mem_append.mp hw with hw | hw
    · have hw : w ∈ Cond.code x code maxLocals ret :: zT0 := hw
      rcases List.mem_cons.mp hw with rfl | hw
      · exact hcw
      · exact hts w (List.mem_filter.mp hw).1
    · exact hts w (List.mem_filter.mp hw).1
  have hC : zctx p s m #[Value.ref b] meth c (zYf 172).1.cls (zYf 172).1.name (zYf 172).2.1 (zYf 172).2.2.1 (fun q => s.heap.size ≤ q) (zW 172) := ⟨hx, hb, hml, hown, hw, fun _ h => h, hlocks, hmn⟩
  have hleaf := zsnd2 (mt := zmL2) (me := zm_172) (a := 172) (b := b) (zfa_L env) he (zc_zm_172 env) (zcode_drop 0 (zc_zm_172 env)) ho (Or.inl o1) p l e room_1 s m #[Value.ref b] below meth c D (fun q => s.heap.size ≤ q) [] 23 _ zpc_c hC hst het hr ⟨by decide, by decide, o3, o4⟩ hXX (fun h5 => absurd (o1.symm.trans h5) (by decide)) (fun _ => rfl)
  have hpre := zsnd (mt := zmP) (me := zlp) (a := 172) (b := b) (f := 5611) (d := 40) (zfa_P []) (zrs_0 L xs) rfl (zc_zlp []) (z_eqR_ok zrP) (Or.inr (Or.inr (Or.inr rfl))) p l e room_1 s m #[Value.ref b] below meth c D (fun q => s.heap.size ≤ q) [] 0 _ zpc_c hC hst het hr ⟨by decide, by decide, by decide, by decide⟩ hXX (fun _ => hleaf) (fun h5 => absurd rfl h5)
  have hP : va_P D zcl [] s.heap := fun k q h => by simp at h
  have hD : va_D (fun q : Nat => s.heap.size ≤ q) [] := ⟨fun i j p q h => by simp at h, fun k q h => by simp at h⟩
  have hz : zw zft (zrs L xs) b ([], [], 0, 0) [] [] := ⟨trivial, rfl, rfl, fun k c h => by simp [z_flat] at h⟩
  have hent := zk_entry (as := [(8, 0)]) (vs := [Value.ref b]) (nL := 8) hpre rfl rfl (by decide) hP hD hK hz (fun i a h => by simp at h) ⟨rfl, trivial⟩
  intro T hT X
  obtain ⟨t, h1, h2⟩ := hent T hT X
  refine ⟨t, h1, ?_⟩
  obtain ⟨ot, ov, ok⟩ := o
  dsimp only at o1 o2
  subst o1 o2
  obtain ⟨oc, g1, g2, ⟨ws, tys, ⟨w, e1, e2⟩, -⟩, Lc, ⟨g4, g5, g6⟩, g7⟩ := h2
  have e2 : w = .int (nI 1) := e2
  subst e1 e2
  exact ⟨_, g1, g2, rfl, g4, g5, (State.sameButNew.drop_fresh (L := []) g6 g7).mono o3 o4⟩
set_option maxHeartbeats 4000000 in
theorem lw_walk (l : Launch) (hst : l.stackTraces = false) (b : Addr) (xs : List Int32) : MetFree l x (headSpec (Jvm.Cond.code x code maxLocals ret :: tables_1) room_1) (lw_P b xs) (fun _ _ _ _ _ => True) lw_Q := by
  refine MetFree.of_bodyS (code := code) (maxLocals := maxLocals) (ret := ret) (by decide) ?_ ?_
  · intro args s m h hn
    obtain ⟨meth, c, h1, h2, h3, h4, h5, h6, -, -⟩ := Cond.code_spec hn (atoms_spec (ws := Jvm.Cond.code x code maxLocals ret :: tables_1) h _ List.mem_cons_self)
    exact ⟨meth, c, h1, h2, h3, h4, h5, h6⟩
  · intro p e s m args below meth c s₁ B hml0 hP _
    obtain ⟨rfl, hx, hbd, hgv⟩ := hP
    obtain ⟨scr, harrAt, hlist, hof, hsmall⟩ := hx
    obtain ⟨hcb, hkn, -, -⟩ := State.arrayAt?_spec harrAt
    have hown : s.vm.findClass R_law = some m.cls := findClass_of_methodNamed B.named
    have hts0 : ∀ c ∈ (Jvm.Cond.code x code maxLocals ret :: tables_1), c.before #[Value.ref b] s = true := atoms_spec (ws := Jvm.Cond.code x code maxLocals ret :: tables_1) B.pre
    have hts : ∀ w ∈ lw_tbl, w.before #[Value.ref b] s = true := k2_hts_sels lw_privs (fun w hw => hts0 w (List.mem_cons_of_mem _ hw)) lw_privs_ok
    have hml : c.maxLocals = 8 := B.maxLocals_eq (hts0 _ List.mem_cons_self)
    have X₀ : Stand p l e room_1 s m #[Value.ref b] below meth c s₁ [] 0 0 := Stand.of_body B
    have hh0 : s₁.heap = s.heap := by rw [B.state]; rfl
    have hsz : scr.slots.size = xs.length := by rw [← Array.length_toList, hlist, List.length_map]
    have hval : ∀ j : Nat, j < xs.length → scr.slots[j]? = some (.int (xs.getD j 0)) := fun j hj => by
      rw [← Array.getElem?_toList, hlist]
      simp [hj]
    have hbl : b < s.heap.size := (Array.getElem?_eq_some_iff.mp hcb).1
    have hX : va_X b xs.length (fun j => xs.getD j 0) s s.heap := ⟨scr, hcb, hof, hkn, hsz, hval⟩
    have hET : c.exceptionTable.toList = [] := by
      obtain ⟨meth9, c9, h1, h2, -, -, -, -, h7, -⟩ := Cond.code_spec B.named (hts0 _ List.mem_cons_self)
      cases Option.some.inj (h1.symm.trans B.method)
      cases Option.some.inj (h2.symm.trans (Stand.of_body B).code)
      rw [Array.isEmpty_iff.mp h7]
    have K : W p l e room_1 s m #[Value.ref b] below meth c s₁.heap [] 0 0 (lw_Z below #[Value.ref b] s) (entryFrame m ([Value.ref b] : List Value).toArray 8) := by
      rw [hh0]
      exact whole_start l hbd ⟨B.exec, B.bytes, B.returns, hml, hown, hts, hX, hbl, B.notSynchronized, hgv, hts0 _ List.mem_cons_self, hET, (name_of_methodNamed B.named B.method).1, hst⟩
    obtain ⟨t, a1, o, b1, b2, b3⟩ := K s₁ rfl X₀
    exact ⟨t, o, a1, b1, b2, b3⟩
theorem lw_pre_spec {args : Array Value} {s : State} (h : (Jvm.Cond.and given_1 narrow_1).before args s = true) (hr : rest_1_c.before args s = true) : ∃ (b : Addr) (xs : List Int32), lw_P b xs args s := by
  have hs := flat_of_before _ h
  have hq := flat_of_before _ hr
  have hc : (Cond.count 1).before args s = true := hs _ (by decide +kernel)
  have harr : (Cond.arrayOf (.arg 0) .int).before args s = true := hs _ (by decide +kernel)
  have hle : (Cond.le (.length (.arg 0)) (.int 6)).before args s = true := hs _ (by decide +kernel)
  have hlen : (Cond.isInt (.length (.arg 0))).before args s = true := hq _ (by decide +kernel)
  have hall : (Cond.all (.arg 0) (.isInt (.elem (.arg 0) (.index 0)))).before args s = true := hq _ (by decide +kernel)
  obtain ⟨b, xs, hb, hx⟩ := State.ints_of_pre rfl harr hlen hall
  have hsm : xs.length < 2 ^ 31 := hx.choose_spec.2.2.2
  have hev : (Term.length (.arg 0)).eval args s none [] s = some (.int xs.length.toInt32) := hx.length_eval hb
  have hv := Cond.le_ints hev (show (Term.int 6).eval args s none [] s = some (.int 6) from rfl)
  have hd : xs.length.toInt32 ≤ 6 := by
    simpa [Cond.before, Cond.holds, hv] using hle
  have hN : xs.length ≤ 6 := (Int32.ofNat_le_ofNat hsm (by decide)).mp (show Int32.ofNat xs.length ≤ Int32.ofNat 6 from hd)
  exact ⟨b, xs, Cond.one_arg hc (show args[0]? = some (.ref b) from hb), hx, hN, h⟩
theorem lw_comes (l : Launch) (hst : l.stackTraces = false) : Comes l x (Jvm.Cond.code x code maxLocals ret :: tables_1) room_1 (fun tb e args s => Calls_1 tb e args s ∧ rest_1 tb e args s ∧ Pre_1 tb e args s)
    (fun _ _ args s o t => lw_Q args s o t) := by
  intro p e ha hc hk s m args below hf hfit hheap happ hpre
  obtain ⟨b, xs, hP⟩ := lw_pre_spec hpre.2.2 hpre.2.1
  obtain ⟨k, o, h1, h2, h3, hQ⟩ := lw_walk l hst b xs p e ha hc hk s m args below hf ((Spec.applies_iff_loose hf).mp happ).1 hP trivial
  exact ⟨k, o, h1, h2, h3, hQ⟩
theorem lw_frame {s t : State} {o : Outcome} {args : Array Value} (h : Framed s o t [] 600002 7302232) :
    Framed s o t (fieldLocs frame_1_writes args s ++ arrayLocs frame_1_arrays args s ++ staticLocs frame_1_statics s) 600002 7302232 := h
theorem lw_limb (L : Cond) (hL : ∀ (args : Array Value) (s t : State), L.after args s (.returned (some (.int 1))) t = true) :
    ArmFor flags0 classFile x code maxLocals ret World_1 tables_1 room_1 Calls_1 rest_1 Pre_1
      (fun tb e a s o t => postC L tb e a s o t ∧ Framed s o t (fieldLocs frame_1_writes a s ++ arrayLocs frame_1_arrays a s ++ staticLocs frame_1_statics s) 600002 7302232) := by
  intro l hfl _ _ p e ha hc hk s m args below hf hfit hheap happ hpre
  obtain ⟨k, o, h1, h2, h3, rfl, hF⟩ := lw_comes l (by unfold Launch.stackTraces; rw [hfl]; decide +kernel) p e ha hc hk s m args below hf hfit hheap happ hpre
  exact ⟨k, _, h1, h2, h3, hL args s _, lw_frame hF⟩
theorem i_vc : Claimed_1_1 ∧ Claimed_1_2 := ⟨lw_limb limb_1_1 (fun args s t => by simp [limb_1_1, Cond.after, Cond.holds, Cond.value]), lw_limb limb_1_2 (fun args s t => Cond.after_iff.mpr (by
  first | (rw [show limb_1_2 = Cond.eq .result (.int 1) from rfl, Cond.eq_ints (x := 1) (y := 1) rfl rfl]; simp; done) | (simp [limb_1_2, Cond.value, Term.eval]; done)))⟩
