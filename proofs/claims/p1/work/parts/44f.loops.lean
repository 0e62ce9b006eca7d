/-! THE TWO LOOPS THAT ARE TOLD STEP BY STEP -/
set_option maxRecDepth 100000 in
theorem zfa_S : zFall [] 0 [zm_0, zm_1, zm_2, zm_3, zm_4, zfS] := ⟨⟨zc_zm_0 _, zpc_c⟩, ⟨zc_zm_1 _, zpc_c⟩, ⟨zc_zm_2 _, zpc_c⟩, ⟨zc_zm_3 _, zpc_c⟩, ⟨zc_zm_4 _, zpc_c⟩, ⟨zc_zfS _, zpc_c⟩, trivial⟩
theorem zrunA (j : Nat) (hj : j < 64) : zrun j = true := by
  by_cases h0 : j < 8
  · exact List.all_eq_true.mp zrQ0 j (List.mem_range'_1.mpr ⟨by omega, by omega⟩)
  by_cases h1 : j < 16
  · exact List.all_eq_true.mp zrQ1 j (List.mem_range'_1.mpr ⟨by omega, by omega⟩)
  by_cases h2 : j < 24
  · exact List.all_eq_true.mp zrQ2 j (List.mem_range'_1.mpr ⟨by omega, by omega⟩)
  by_cases h3 : j < 32
  · exact List.all_eq_true.mp zrQ3 j (List.mem_range'_1.mpr ⟨by omega, by omega⟩)
  by_cases h4 : j < 40
  · exact List.all_eq_true.mp zrQ4 j (List.mem_range'_1.mpr ⟨by omega, by omega⟩)
  by_cases h5 : j < 48
  · exact List.all_eq_true.mp zrQ5 j (List.mem_range'_1.mpr ⟨by omega, by omega⟩)
  by_cases h6 : j < 56
  · exact List.all_eq_true.mp zrQ6 j (List.mem_range'_1.mpr ⟨by omega, by omega⟩)
  exact List.all_eq_true.mp zrQ7 j (List.mem_range'_1.mpr ⟨by omega, by omega⟩)
theorem zrunB (j : Nat) (hj : j < 512) : zrun1 j = true := by
  by_cases h0 : j < 16
  · exact List.all_eq_true.mp zrI0 j (List.mem_range'_1.mpr ⟨by omega, by omega⟩)
  by_cases h1 : j < 32
  · exact List.all_eq_true.mp zrI1 j (List.mem_range'_1.mpr ⟨by omega, by omega⟩)
  by_cases h2 : j < 48
  · exact List.all_eq_true.mp zrI2 j (List.mem_range'_1.mpr ⟨by omega, by omega⟩)
  by_cases h3 : j < 64
  · exact List.all_eq_true.mp zrI3 j (List.mem_range'_1.mpr ⟨by omega, by omega⟩)
  by_cases h4 : j < 80
  · exact List.all_eq_true.mp zrI4 j (List.mem_range'_1.mpr ⟨by omega, by omega⟩)
  by_cases h5 : j < 96
  · exact List.all_eq_true.mp zrI5 j (List.mem_range'_1.mpr ⟨by omega, by omega⟩)
  by_cases h6 : j < 112
  · exact List.all_eq_true.mp zrI6 j (List.mem_range'_1.mpr ⟨by omega, by omega⟩)
  by_cases h7 : j < 128
  · exact List.all_eq_true.mp zrI7 j (List.mem_range'_1.mpr ⟨by omega, by omega⟩)
  by_cases h8 : j < 144
  · exact List.all_eq_true.mp zrI8 j (List.mem_range'_1.mpr ⟨by omega, by omega⟩)
  by_cases h9 : j < 160
  · exact List.all_eq_true.mp zrI9 j (List.mem_range'_1.mpr ⟨by omega, by omega⟩)
  by_cases h10 : j < 176
  · exact List.all_eq_true.mp zrI10 j (List.mem_range'_1.mpr ⟨by omega, by omega⟩)
  by_cases h11 : j < 192
  · exact List.all_eq_true.mp zrI11 j (List.mem_range'_1.mpr ⟨by omega, by omega⟩)
  by_cases h12 : j < 208
  · exact List.all_eq_true.mp zrI12 j (List.mem_range'_1.mpr ⟨by omega, by omega⟩)
  by_cases h13 : j < 224
  · exact List.all_eq_true.mp zrI13 j (List.mem_range'_1.mpr ⟨by omega, by omega⟩)
  by_cases h14 : j < 240
  · exact List.all_eq_true.mp zrI14 j (List.mem_range'_1.mpr ⟨by omega, by omega⟩)
  by_cases h15 : j < 256
  · exact List.all_eq_true.mp zrI15 j (List.mem_range'_1.mpr ⟨by omega, by omega⟩)
  by_cases h16 : j < 272
  · exact List.all_eq_true.mp zrI16 j (List.mem_range'_1.mpr ⟨by omega, by omega⟩)
  by_cases h17 : j < 288
  · exact List.all_eq_true.mp zrI17 j (List.mem_range'_1.mpr ⟨by omega, by omega⟩)
  by_cases h18 : j < 304
  · exact List.all_eq_true.mp zrI18 j (List.mem_range'_1.mpr ⟨by omega, by omega⟩)
  by_cases h19 : j < 320
  · exact List.all_eq_true.mp zrI19 j (List.mem_range'_1.mpr ⟨by omega, by omega⟩)
  by_cases h20 : j < 336
  · exact List.all_eq_true.mp zrI20 j (List.mem_range'_1.mpr ⟨by omega, by omega⟩)
  by_cases h21 : j < 352
  · exact List.all_eq_true.mp zrI21 j (List.mem_range'_1.mpr ⟨by omega, by omega⟩)
  by_cases h22 : j < 368
  · exact List.all_eq_true.mp zrI22 j (List.mem_range'_1.mpr ⟨by omega, by omega⟩)
  by_cases h23 : j < 384
  · exact List.all_eq_true.mp zrI23 j (List.mem_range'_1.mpr ⟨by omega, by omega⟩)
  by_cases h24 : j < 400
  · exact List.all_eq_true.mp zrI24 j (List.mem_range'_1.mpr ⟨by omega, by omega⟩)
  by_cases h25 : j < 416
  · exact List.all_eq_true.mp zrI25 j (List.mem_range'_1.mpr ⟨by omega, by omega⟩)
  by_cases h26 : j < 432
  · exact List.all_eq_true.mp zrI26 j (List.mem_range'_1.mpr ⟨by omega, by omega⟩)
  by_cases h27 : j < 448
  · exact List.all_eq_true.mp zrI27 j (List.mem_range'_1.mpr ⟨by omega, by omega⟩)
  by_cases h28 : j < 464
  · exact List.all_eq_true.mp zrI28 j (List.mem_range'_1.mpr ⟨by omega, by omega⟩)
  by_cases h29 : j < 480
  · exact List.all_eq_true.mp zrI29 j (List.mem_range'_1.mpr ⟨by omega, by omega⟩)
  by_cases h30 : j < 496
  · exact List.all_eq_true.mp zrI30 j (List.mem_range'_1.mpr ⟨by omega, by omega⟩)
  exact List.all_eq_true.mp zrI31 j (List.mem_range'_1.mpr ⟨by omega, by omega⟩)
theorem zf_zm_5_103 (env : List (Nat × Nat)) : zL9 5 env (195, 80, 4, 311, 64) 195 := zi_piece (QF := z_QF zEX zcl zft) (G := zGv env) (d := 12) (pr := zpr) (n := 64) (cs := 23) (ss := 8176) (v0 := (6, 398)) (h := zhS) (t := ztS) (q := zs4) (frB := z_drop zfS.1 1) (ls8 := zl8) rfl ⟨rfl, rfl, rfl, rfl⟩ (fun j hj ρ b he => zsnd (mt := zmS) (me := zfS) zfa_S he rfl (zcode_drop 1 (zc_zfS _)) (z_eqR_ok (zrunA j hj)) (Or.inr (Or.inr (Or.inr rfl)))) (fun j hj => ⟨rfl, rfl, rfl⟩) zpc_c
