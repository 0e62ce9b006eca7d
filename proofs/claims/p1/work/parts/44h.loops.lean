/-! THE LOOP OVER THE STREAMS -/
set_option maxRecDepth 100000 in
theorem zfa_I : zFall [] 0 [zm_0, zm_1, zm_2, zm_3, zm_4, zm_5, zfI] := ⟨⟨zc_zm_0 _, zpc_c⟩, ⟨zc_zm_1 _, zpc_c⟩, ⟨zc_zm_2 _, zpc_c⟩, ⟨zc_zm_3 _, zpc_c⟩, ⟨zc_zm_4 _, zpc_c⟩, ⟨zc_zm_5 _, zpc_c⟩, ⟨zc_zfI _, zpc_c⟩, trivial⟩
theorem zf_zm_6_242 (env : List (Nat × Nat)) : zL9 6 env (481, 81, 5, 512, 0) 481 := zi_piece1 (QF := z_QF zEX zcl zft) (G := zGv env) (d := 12) (n := 512) (cs := 51) (ss := 597532) (v0 := (6, 422)) (h := zhI) (t := ztI) (q := zs5) (frB := z_drop zfI.1 1) (ls8 := zl9) rfl ⟨rfl, rfl, rfl, rfl⟩ (fun j hj ρ b he => zsnd (mt := zmI) (me := zfI) zfa_I he rfl (zcode_drop 1 (zc_zfI _)) (z_eqR_ok (zrunB j hj)) (Or.inr (Or.inr (Or.inr rfl)))) (fun j hj => ⟨rfl, rfl⟩) zpc_c
