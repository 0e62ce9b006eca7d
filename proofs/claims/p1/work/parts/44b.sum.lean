/-! FROM FACTS TO RUNS -/
def zFall (env : List (Nat × Nat)) : Nat → List zP → Prop
  | _, [] => True
  | a, m :: r => (zcode zX (z_QF zEX zcl zft) (z_zm zEX zX zWL zcl zft zYf) zYf zW zET zcl zft (zGv env) a m m.1 ∧ zpc m.1 0) ∧ zFall env (a + 1) r
theorem zFall_at {env : List (Nat × Nat)} : ∀ {l : List zP} {k a : Nat} {me : zP}, zFall env k l → z_at l a = some me → zcode zX (z_QF zEX zcl zft) (z_zm zEX zX zWL zcl zft zYf) zYf zW zET zcl zft (zGv env) (k + a) me me.1 ∧ zpc me.1 0
  | [], _, _, _, _, h => by unfold z_at at h; cases h
  | m :: r, k, 0, me, hF, h => by
    cases h
    exact hF.1
  | m :: r, k, a + 1, me, hF, h => by
    have := zFall_at (k := k + 1) (a := a) hF.2 h
    rwa [show k + 1 + a = k + (a + 1) by omega] at this
theorem zFall_0 {env : List (Nat × Nat)} {l : List zP} (hF : zFall env 0 l) (a : Nat) (me : zP) (h : z_at l a = some me) : zcode zX (z_QF zEX zcl zft) (z_zm zEX zX zWL zcl zft zYf) zYf zW zET zcl zft (zGv env) a me me.1 ∧ zpc me.1 0 := by
  have := zFall_at hF h
  rwa [Nat.zero_add] at this
theorem zsnd {mt : List zP} {env : List (Nat × Nat)} (hF : zFall env 0 mt) {ρ : Nat → Int32} {b : Nat} (he : ze ρ env) {f d a : Nat} {me : zP} {cs : List zJ} {k : zK} {o : zR} (ha : z_at mt a = some me) (hc : zcode zX (z_QF zEX zcl zft) (z_zm zEX zX zWL zcl zft zYf) zYf zW zET zcl zft (zGv env) a me cs) (h : zx mt (zGv env) f d me cs k = o) (ho : zGd o) : zbody zX (z_QF zEX zcl zft) zYf zW zET zcl zft ρ b a d cs k o :=
  z_sound (G := zGv env) he (zFall_0 hF) (z_hZ zNok_ok (fun a me ha => ⟨zWok_all a, (zFall_0 hF a me ha).2⟩)) f d a me cs k o ha hc h ho
theorem zsum {mt : List zP} (hF : zFall [] 0 mt) {q : zSum} {f : Nat} {me : zP} (ha : z_at mt q.1.1 = some me) (hn : z_cats q.2.1 ≤ (zYf q.1.1).2.2.1) (h : z_eqR (zx mt (zGv []) f q.1.2 me me.1 (z_args 0 q.2.1, [], (q.2.2.1, q.2.2.2.1, 0, 0))) (1, q.2.2.2.2.1, [], [], (q.2.2.2.2.2, q.2.2.2.1, 0, 0)) = true) : zSok zX zWL zcl zft zYf q := by
  refine ⟨[], [], fun ρ b he => ?_⟩
  exact (z_all (G := zGv []) (S := (q.2.2.1, q.2.2.2.1, 0, 0)) he zNok_ok (fun a me ha => ⟨zWok_all a, (zFall_0 hF a me ha).2, (zFall_0 hF a me ha).1⟩) ha hn (z_eqR_ok h) (Or.inl rfl)).1 (Or.inl rfl)

set_option maxRecDepth 100000 in
theorem zfa_A1 : zFall [] 0 [zm_0, zm_1] := ⟨⟨zc_zm_0 _, zpc_c⟩, ⟨zc_zm_1 _, zpc_c⟩, trivial⟩
theorem zsok_0 : zSok zX zWL zcl zft zYf zs0 := zsum (mt := zmA1) (me := zm_1) zfa_A1 rfl (by decide +kernel) zrS0
theorem zsok_1 : zSok zX zWL zcl zft zYf zs1 := zsum (mt := zmA1) (me := zm_1) zfa_A1 rfl (by decide +kernel) zrS1
