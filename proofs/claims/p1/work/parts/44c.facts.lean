/-! FACTS (by program) -/
theorem zf_zm_2_0 (env : List (Nat × Nat)) : zI9 2 zY_2 zm_2 env (0, 15, 0, 0, 0) 1 := zi_lconst (by decide +kernel : decode zY_2.2.1 0 = .ok (.lconst 0, 1)) (by decide +kernel)
theorem zf_zm_2_1 (env : List (Nat × Nat)) : zI9 2 zY_2 zm_2 env (1, 41, 3, 0, 0) 2 := zi_lstore_n (by decide +kernel : decode zY_2.2.1 1 = .ok (.lstore_n 3, 1)) rfl (by decide)
theorem zf_zm_2_2 (env : List (Nat × Nat)) : zI9 2 zY_2 zm_2 env (2, 2, 35, 0, 0) 4 := zi_bipush (by decide +kernel : decode zY_2.2.1 2 = .ok (.bipush 35, 2)) (by decide +kernel)
theorem zf_zm_2_3 (env : List (Nat × Nat)) : zI9 2 zY_2 zm_2 env (4, 10, 5, 0, 0) 6 := zi_istore (by decide +kernel : decode zY_2.2.1 4 = .ok (.istore 5, 2)) (by decide)
theorem zf_zm_2_4 (env : List (Nat × Nat)) : zI9 2 zY_2 zm_2 env (6, 63, 5, 0, 0) 8 := zi_iload (by decide +kernel : decode zY_2.2.1 6 = .ok (.iload 5, 2))
theorem zf_zm_2_5 (env : List (Nat × Nat)) : zI9 2 zY_2 zm_2 env (8, 22, 20, 0, 0) 11 := zi_if_lt (off := 33) (t := 41) (by decide +kernel : decode zY_2.2.1 8 = .ok (.ifCond .lt 33, 3)) (by decide) (by decide +kernel)
theorem zf_zm_2_6 (env : List (Nat × Nat)) : zI9 2 zY_2 zm_2 env (11, 64, 3, 0, 0) 12 := zi_lload_n (by decide +kernel : decode zY_2.2.1 11 = .ok (.lload_n 3, 1)) rfl
theorem zf_zm_2_7 (env : List (Nat × Nat)) : zI9 2 zY_2 zm_2 env (12, 15, 1, 0, 0) 13 := zi_lconst (by decide +kernel : decode zY_2.2.1 12 = .ok (.lconst 1, 1)) (by decide +kernel)
theorem zf_zm_2_8 (env : List (Nat × Nat)) : zI9 2 zY_2 zm_2 env (13, 63, 5, 0, 0) 15 := zi_iload (by decide +kernel : decode zY_2.2.1 13 = .ok (.iload 5, 2))
theorem zf_zm_2_9 (env : List (Nat × Nat)) : zI9 2 zY_2 zm_2 env (15, 71, 0, 0, 0) 16 := zi_lshl (by decide +kernel : decode zY_2.2.1 15 = .ok (.lshl, 1))
theorem zf_zm_2_10 (env : List (Nat × Nat)) : zI9 2 zY_2 zm_2 env (16, 50, 0, 0, 0) 17 := zi_ladd (by decide +kernel : decode zY_2.2.1 16 = .ok (.ladd, 1))
theorem zf_zm_2_11 (env : List (Nat × Nat)) : zI9 2 zY_2 zm_2 env (17, 41, 3, 0, 0) 18 := zi_lstore_n (by decide +kernel : decode zY_2.2.1 17 = .ok (.lstore_n 3, 1)) rfl (by decide)
theorem zf_zm_2_12 (env : List (Nat × Nat)) : zI9 2 zY_2 zm_2 env (18, 0, 0, 0, 0) 19 := zi_aload_n (by decide +kernel : decode zY_2.2.1 18 = .ok (.aload_n 0, 1)) rfl
theorem zf_zm_2_13 (env : List (Nat × Nat)) : zI9 2 zY_2 zm_2 env (19, 64, 3, 0, 0) 20 := zi_lload_n (by decide +kernel : decode zY_2.2.1 19 = .ok (.lload_n 3, 1)) rfl
theorem zf_zm_2_14 (env : List (Nat × Nat)) : zI9 2 zY_2 zm_2 env (20, 63, 1, 0, 0) 21 := zi_iload_n (by decide +kernel : decode zY_2.2.1 20 = .ok (.iload_n 1, 1)) rfl
theorem zf_zm_2_15 (env : List (Nat × Nat)) : zI9 2 zY_2 zm_2 env (21, 63, 2, 0, 0) 22 := zi_iload_n (by decide +kernel : decode zY_2.2.1 21 = .ok (.iload_n 2, 1)) rfl
theorem zf_zm_2_16 (env : List (Nat × Nat)) : zIok zX (zYf 2).1.cls (zYf 2).1.name (zYf 2).2.1 (zYf 2).2.2.1 (zW 2) zcl zft (zGv env) zm_2 (22, 76, 0, 263, 19) 25 := zi_sum (q := zs0) rfl zsok_0 (zr_V (i := 88) (n := 3) (q := ("TransportPairModel$Seals", zF_17, 25)) zX_ok rfl (zgood_1) (by decide +kernel) (zw_T zwd_4) (zw_T zwd_7) (zw_T zwd_8) rfl (zw_T (zt_sel (y := ⟨"TransportPairModel$Seals","isAbove","(JII)Z"⟩) (n := 25) 99 (by decide +kernel))) ⟨by decide +kernel, by decide +kernel, by decide +kernel⟩ rfl (by decide +kernel : decode (zYf 2).2.1 22 = .ok (.invokevirtual 88, 3)))
theorem zf_zm_2_17 (env : List (Nat × Nat)) : zI9 2 zY_2 zm_2 env (25, 74, 3, 5, 0) 35 := zi_ifset (i := 3) rfl (by decide) (by decide +kernel : decode zY_2.2.1 25 = .ok (.ifCond .eq 10, 3)) (by decide +kernel : decode zY_2.2.1 28 = .ok (.lload_n 3, 1)) (by decide +kernel : decode zY_2.2.1 29 = .ok (.lconst 1, 1)) (by decide +kernel : decode zY_2.2.1 30 = .ok (.iload 5, 2)) (by decide +kernel : decode zY_2.2.1 32 = .ok (.lshl, 1)) (by decide +kernel : decode zY_2.2.1 33 = .ok (.lsub, 1)) (by decide +kernel : decode zY_2.2.1 34 = .ok (.lstore_n 3, 1))
theorem zf_zm_2_18 (env : List (Nat × Nat)) : zI9 2 zY_2 zm_2 env (35, 35, 5, 4294967295, 0) 38 := zi_iinc (by decide +kernel : decode zY_2.2.1 35 = .ok (.iinc 5 (-1), 3)) (by decide +kernel) (by decide)
theorem zf_zm_2_19 (env : List (Nat × Nat)) : zI9 2 zY_2 zm_2 env (38, 7, 4, 0, 0) 41 := zi_goto (off := (-32)) (t := 6) (by decide +kernel : decode zY_2.2.1 38 = .ok (.goto (-32), 3)) (by decide) (by decide +kernel)
theorem zf_zm_2_20 (env : List (Nat × Nat)) : zI9 2 zY_2 zm_2 env (41, 64, 3, 0, 0) 42 := zi_lload_n (by decide +kernel : decode zY_2.2.1 41 = .ok (.lload_n 3, 1)) rfl
theorem zf_zm_2_21 (env : List (Nat × Nat)) : zI9 2 zY_2 zm_2 env (42, 15, 4294967295, 0, 0) 45 := zi_ldc2 (v := 4294967295) (by decide +kernel : decode zY_2.2.1 42 = .ok (.ldc2_w 92, 3)) (by decide +kernel) (zw_T zwd_9)
theorem zf_zm_2_22 (env : List (Nat × Nat)) : zI9 2 zY_2 zm_2 env (45, 70, 0, 0, 0) 46 := zi_land (by decide +kernel : decode zY_2.2.1 45 = .ok (.land, 1))
theorem zf_zm_2_23 (env : List (Nat × Nat)) : zR9 2 env (46, 11, 1, 0, 0) := zi_lret (by decide +kernel : decode (zYf 2).2.1 46 = .ok (.lreturn, 1)) rfl
set_option maxRecDepth 100000 in
theorem zc_zm_2 (env : List (Nat × Nat)) : zcode zX (z_QF zEX zcl zft) (z_zm zEX zX zWL zcl zft zYf) zYf zW zET zcl zft (zGv env) 2 zm_2 zm_2.1 := ⟨Or.inl ⟨1, zf_zm_2_0 env, zpc_c⟩,
  Or.inl ⟨2, zf_zm_2_1 env, zpc_c⟩,
  Or.inl ⟨4, zf_zm_2_2 env, zpc_c⟩,
  Or.inl ⟨6, zf_zm_2_3 env, zpc_c⟩,
  Or.inl ⟨8, zf_zm_2_4 env, zpc_c⟩,
  Or.inl ⟨11, zf_zm_2_5 env, zpc_c⟩,
  Or.inl ⟨12, zf_zm_2_6 env, zpc_c⟩,
  Or.inl ⟨13, zf_zm_2_7 env, zpc_c⟩,
  Or.inl ⟨15, zf_zm_2_8 env, zpc_c⟩,
  Or.inl ⟨16, zf_zm_2_9 env, zpc_c⟩,
  Or.inl ⟨17, zf_zm_2_10 env, zpc_c⟩,
  Or.inl ⟨18, zf_zm_2_11 env, zpc_c⟩,
  Or.inl ⟨19, zf_zm_2_12 env, zpc_c⟩,
  Or.inl ⟨20, zf_zm_2_13 env, zpc_c⟩,
  Or.inl ⟨21, zf_zm_2_14 env, zpc_c⟩,
  Or.inl ⟨22, zf_zm_2_15 env, zpc_c⟩,
  Or.inl ⟨25, zf_zm_2_16 env, zpc_c⟩,
  Or.inl ⟨35, zf_zm_2_17 env, zpc_c⟩,
  Or.inl ⟨38, zf_zm_2_18 env, zpc_c⟩,
  Or.inl ⟨41, zf_zm_2_19 env, zpc_c⟩,
  Or.inl ⟨42, zf_zm_2_20 env, zpc_c⟩,
  Or.inl ⟨45, zf_zm_2_21 env, zpc_c⟩,
  Or.inl ⟨46, zf_zm_2_22 env, zpc_c⟩,
  Or.inr (Or.inl (zf_zm_2_23 env)), trivial⟩
theorem zf_zm_3_0 (env : List (Nat × Nat)) : zI9 3 zY_3 zm_3 env (0, 15, 0, 0, 0) 1 := zi_lconst (by decide +kernel : decode zY_3.2.1 0 = .ok (.lconst 0, 1)) (by decide +kernel)
theorem zf_zm_3_1 (env : List (Nat × Nat)) : zI9 3 zY_3 zm_3 env (1, 41, 3, 0, 0) 2 := zi_lstore_n (by decide +kernel : decode zY_3.2.1 1 = .ok (.lstore_n 3, 1)) rfl (by decide)
theorem zf_zm_3_2 (env : List (Nat × Nat)) : zI9 3 zY_3 zm_3 env (2, 2, 35, 0, 0) 4 := zi_bipush (by decide +kernel : decode zY_3.2.1 2 = .ok (.bipush 35, 2)) (by decide +kernel)
theorem zf_zm_3_3 (env : List (Nat × Nat)) : zI9 3 zY_3 zm_3 env (4, 10, 5, 0, 0) 6 := zi_istore (by decide +kernel : decode zY_3.2.1 4 = .ok (.istore 5, 2)) (by decide)
theorem zf_zm_3_4 (env : List (Nat × Nat)) : zI9 3 zY_3 zm_3 env (6, 63, 5, 0, 0) 8 := zi_iload (by decide +kernel : decode zY_3.2.1 6 = .ok (.iload 5, 2))
theorem zf_zm_3_5 (env : List (Nat × Nat)) : zI9 3 zY_3 zm_3 env (8, 22, 20, 0, 0) 11 := zi_if_lt (off := 33) (t := 41) (by decide +kernel : decode zY_3.2.1 8 = .ok (.ifCond .lt 33, 3)) (by decide) (by decide +kernel)
theorem zf_zm_3_6 (env : List (Nat × Nat)) : zI9 3 zY_3 zm_3 env (11, 64, 3, 0, 0) 12 := zi_lload_n (by decide +kernel : decode zY_3.2.1 11 = .ok (.lload_n 3, 1)) rfl
theorem zf_zm_3_7 (env : List (Nat × Nat)) : zI9 3 zY_3 zm_3 env (12, 15, 1, 0, 0) 13 := zi_lconst (by decide +kernel : decode zY_3.2.1 12 = .ok (.lconst 1, 1)) (by decide +kernel)
theorem zf_zm_3_8 (env : List (Nat × Nat)) : zI9 3 zY_3 zm_3 env (13, 63, 5, 0, 0) 15 := zi_iload (by decide +kernel : decode zY_3.2.1 13 = .ok (.iload 5, 2))
theorem zf_zm_3_9 (env : List (Nat × Nat)) : zI9 3 zY_3 zm_3 env (15, 71, 0, 0, 0) 16 := zi_lshl (by decide +kernel : decode zY_3.2.1 15 = .ok (.lshl, 1))
theorem zf_zm_3_10 (env : List (Nat × Nat)) : zI9 3 zY_3 zm_3 env (16, 50, 0, 0, 0) 17 := zi_ladd (by decide +kernel : decode zY_3.2.1 16 = .ok (.ladd, 1))
theorem zf_zm_3_11 (env : List (Nat × Nat)) : zI9 3 zY_3 zm_3 env (17, 41, 3, 0, 0) 18 := zi_lstore_n (by decide +kernel : decode zY_3.2.1 17 = .ok (.lstore_n 3, 1)) rfl (by decide)
theorem zf_zm_3_12 (env : List (Nat × Nat)) : zI9 3 zY_3 zm_3 env (18, 0, 0, 0, 0) 19 := zi_aload_n (by decide +kernel : decode zY_3.2.1 18 = .ok (.aload_n 0, 1)) rfl
theorem zf_zm_3_13 (env : List (Nat × Nat)) : zI9 3 zY_3 zm_3 env (19, 64, 3, 0, 0) 20 := zi_lload_n (by decide +kernel : decode zY_3.2.1 19 = .ok (.lload_n 3, 1)) rfl
theorem zf_zm_3_14 (env : List (Nat × Nat)) : zI9 3 zY_3 zm_3 env (20, 63, 1, 0, 0) 21 := zi_iload_n (by decide +kernel : decode zY_3.2.1 20 = .ok (.iload_n 1, 1)) rfl
theorem zf_zm_3_15 (env : List (Nat × Nat)) : zI9 3 zY_3 zm_3 env (21, 63, 2, 0, 0) 22 := zi_iload_n (by decide +kernel : decode zY_3.2.1 21 = .ok (.iload_n 2, 1)) rfl
theorem zf_zm_3_16 (env : List (Nat × Nat)) : zIok zX (zYf 3).1.cls (zYf 3).1.name (zYf 3).2.1 (zYf 3).2.2.1 (zW 3) zcl zft (zGv env) zm_3 (22, 76, 1, 263, 19) 25 := zi_sum (q := zs1) rfl zsok_1 (zr_V (i := 88) (n := 3) (q := ("TransportPairModel$Seals", zF_17, 25)) zX_ok rfl (zgood_1) (by decide +kernel) (zw_T zwd_4) (zw_T zwd_7) (zw_T zwd_8) rfl (zw_T (zt_sel (y := ⟨"TransportPairModel$Seals","isAbove","(JII)Z"⟩) (n := 25) 99 (by decide +kernel))) ⟨by decide +kernel, by decide +kernel, by decide +kernel⟩ rfl (by decide +kernel : decode (zYf 3).2.1 22 = .ok (.invokevirtual 88, 3)))
theorem zf_zm_3_17 (env : List (Nat × Nat)) : zI9 3 zY_3 zm_3 env (25, 74, 3, 5, 0) 35 := zi_ifset (i := 3) rfl (by decide) (by decide +kernel : decode zY_3.2.1 25 = .ok (.ifCond .eq 10, 3)) (by decide +kernel : decode zY_3.2.1 28 = .ok (.lload_n 3, 1)) (by decide +kernel : decode zY_3.2.1 29 = .ok (.lconst 1, 1)) (by decide +kernel : decode zY_3.2.1 30 = .ok (.iload 5, 2)) (by decide +kernel : decode zY_3.2.1 32 = .ok (.lshl, 1)) (by decide +kernel : decode zY_3.2.1 33 = .ok (.lsub, 1)) (by decide +kernel : decode zY_3.2.1 34 = .ok (.lstore_n 3, 1))
theorem zf_zm_3_18 (env : List (Nat × Nat)) : zI9 3 zY_3 zm_3 env (35, 35, 5, 4294967295, 0) 38 := zi_iinc (by decide +kernel : decode zY_3.2.1 35 = .ok (.iinc 5 (-1), 3)) (by decide +kernel) (by decide)
theorem zf_zm_3_19 (env : List (Nat × Nat)) : zI9 3 zY_3 zm_3 env (38, 7, 4, 0, 0) 41 := zi_goto (off := (-32)) (t := 6) (by decide +kernel : decode zY_3.2.1 38 = .ok (.goto (-32), 3)) (by decide) (by decide +kernel)
theorem zf_zm_3_20 (env : List (Nat × Nat)) : zI9 3 zY_3 zm_3 env (41, 64, 3, 0, 0) 42 := zi_lload_n (by decide +kernel : decode zY_3.2.1 41 = .ok (.lload_n 3, 1)) rfl
theorem zf_zm_3_21 (env : List (Nat × Nat)) : zI9 3 zY_3 zm_3 env (42, 15, 4294967295, 0, 0) 45 := zi_ldc2 (v := 4294967295) (by decide +kernel : decode zY_3.2.1 42 = .ok (.ldc2_w 92, 3)) (by decide +kernel) (zw_T zwd_9)
theorem zf_zm_3_22 (env : List (Nat × Nat)) : zI9 3 zY_3 zm_3 env (45, 70, 0, 0, 0) 46 := zi_land (by decide +kernel : decode zY_3.2.1 45 = .ok (.land, 1))
theorem zf_zm_3_23 (env : List (Nat × Nat)) : zR9 3 env (46, 11, 1, 0, 0) := zi_lret (by decide +kernel : decode (zYf 3).2.1 46 = .ok (.lreturn, 1)) rfl
set_option maxRecDepth 100000 in
theorem zc_zm_3 (env : List (Nat × Nat)) : zcode zX (z_QF zEX zcl zft) (z_zm zEX zX zWL zcl zft zYf) zYf zW zET zcl zft (zGv env) 3 zm_3 zm_3.1 := ⟨Or.inl ⟨1, zf_zm_3_0 env, zpc_c⟩,
  Or.inl ⟨2, zf_zm_3_1 env, zpc_c⟩,
  Or.inl ⟨4, zf_zm_3_2 env, zpc_c⟩,
  Or.inl ⟨6, zf_zm_3_3 env, zpc_c⟩,
  Or.inl ⟨8, zf_zm_3_4 env, zpc_c⟩,
  Or.inl ⟨11, zf_zm_3_5 env, zpc_c⟩,
  Or.inl ⟨12, zf_zm_3_6 env, zpc_c⟩,
  Or.inl ⟨13, zf_zm_3_7 env, zpc_c⟩,
  Or.inl ⟨15, zf_zm_3_8 env, zpc_c⟩,
  Or.inl ⟨16, zf_zm_3_9 env, zpc_c⟩,
  Or.inl ⟨17, zf_zm_3_10 env, zpc_c⟩,
  Or.inl ⟨18, zf_zm_3_11 env, zpc_c⟩,
  Or.inl ⟨19, zf_zm_3_12 env, zpc_c⟩,
  Or.inl ⟨20, zf_zm_3_13 env, zpc_c⟩,
  Or.inl ⟨21, zf_zm_3_14 env, zpc_c⟩,
  Or.inl ⟨22, zf_zm_3_15 env, zpc_c⟩,
  Or.inl ⟨25, zf_zm_3_16 env, zpc_c⟩,
  Or.inl ⟨35, zf_zm_3_17 env, zpc_c⟩,
  Or.inl ⟨38, zf_zm_3_18 env, zpc_c⟩,
  Or.inl ⟨41, zf_zm_3_19 env, zpc_c⟩,
  Or.inl ⟨42, zf_zm_3_20 env, zpc_c⟩,
  Or.inl ⟨45, zf_zm_3_21 env, zpc_c⟩,
  Or.inl ⟨46, zf_zm_3_22 env, zpc_c⟩,
  Or.inr (Or.inl (zf_zm_3_23 env)), trivial⟩
theorem zf_zm_4_0 (env : List (Nat × Nat)) : zI9 4 zY_4 zm_4 env (0, 63, 0, 0, 0) 1 := zi_iload_n (by decide +kernel : decode zY_4.2.1 0 = .ok (.iload_n 0, 1)) rfl
theorem zf_zm_4_1 (env : List (Nat × Nat)) : zI9 4 zY_4 zm_4 env (1, 10, 1, 0, 0) 2 := zi_istore_n (by decide +kernel : decode zY_4.2.1 1 = .ok (.istore_n 1, 1)) rfl (by decide)
theorem zf_zm_4_2 (env : List (Nat × Nat)) : zI9 4 zY_4 zm_4 env (2, 2, 0, 0, 0) 3 := zi_iconst (by decide +kernel : decode zY_4.2.1 2 = .ok (.iconst 0, 1)) (by decide +kernel)
theorem zf_zm_4_3 (env : List (Nat × Nat)) : zI9 4 zY_4 zm_4 env (3, 10, 2, 0, 0) 4 := zi_istore_n (by decide +kernel : decode zY_4.2.1 3 = .ok (.istore_n 2, 1)) rfl (by decide)
theorem zf_zm_4_4 (env : List (Nat × Nat)) : zI9 4 zY_4 zm_4 env (4, 63, 2, 0, 0) 5 := zi_iload_n (by decide +kernel : decode zY_4.2.1 4 = .ok (.iload_n 2, 1)) rfl
theorem zf_zm_4_5 (env : List (Nat × Nat)) : zI9 4 zY_4 zm_4 env (5, 6, 13, 0, 0) 8 := zi_if_ne (off := 40) (t := 45) (by decide +kernel : decode zY_4.2.1 5 = .ok (.ifCond .ne 40, 3)) (by decide) (by decide +kernel)
theorem zf_zm_4_6 (env : List (Nat × Nat)) : zI9 4 zY_4 zm_4 env (8, 35, 1, 1, 0) 11 := zi_iinc (by decide +kernel : decode zY_4.2.1 8 = .ok (.iinc 1 1, 3)) (by decide +kernel) (by decide)
theorem zf_zm_4_7 (env : List (Nat × Nat)) : zI9 4 zY_4 zm_4 env (11, 2, 1, 0, 0) 12 := zi_iconst (by decide +kernel : decode zY_4.2.1 11 = .ok (.iconst 1, 1)) (by decide +kernel)
theorem zf_zm_4_8 (env : List (Nat × Nat)) : zI9 4 zY_4 zm_4 env (12, 10, 2, 0, 0) 13 := zi_istore_n (by decide +kernel : decode zY_4.2.1 12 = .ok (.istore_n 2, 1)) rfl (by decide)
theorem zf_zm_4_9 (env : List (Nat × Nat)) : zI9 4 zY_4 zm_4 env (13, 2, 2, 0, 0) 14 := zi_iconst (by decide +kernel : decode zY_4.2.1 13 = .ok (.iconst 2, 1)) (by decide +kernel)
theorem zf_zm_4_10 (env : List (Nat × Nat)) : zI9 4 zY_4 zm_4 env (14, 10, 3, 0, 0) 15 := zi_istore_n (by decide +kernel : decode zY_4.2.1 14 = .ok (.istore_n 3, 1)) rfl (by decide)
theorem zf_zm_4_11 (env : List (Nat × Nat)) : zI9 4 zY_4 zm_4 env (15, 75, 0, 0, 0) 42 := zi_prime (by decide) (by decide +kernel : decode zY_4.2.1 15 = .ok (.iload_n 3, 1)) (by decide +kernel : decode zY_4.2.1 16 = .ok (.iload_n 1, 1)) (by decide +kernel : decode zY_4.2.1 17 = .ok (.if_icmp .ge 25, 3)) (by decide +kernel : decode zY_4.2.1 20 = .ok (.iload_n 2, 1)) (by decide +kernel : decode zY_4.2.1 21 = .ok (.ifCond .eq 13, 3)) (by decide +kernel : decode zY_4.2.1 24 = .ok (.iload_n 1, 1)) (by decide +kernel : decode zY_4.2.1 25 = .ok (.iload_n 3, 1)) (by decide +kernel : decode zY_4.2.1 26 = .ok (.irem, 1)) (by decide +kernel : decode zY_4.2.1 27 = .ok (.ifCond .eq 7, 3)) (by decide +kernel : decode zY_4.2.1 30 = .ok (.iconst 1, 1)) (by decide +kernel : decode zY_4.2.1 31 = .ok (.goto 4, 3)) (by decide +kernel : decode zY_4.2.1 34 = .ok (.iconst 0, 1)) (by decide +kernel : decode zY_4.2.1 35 = .ok (.istore_n 2, 1)) (by decide +kernel : decode zY_4.2.1 36 = .ok (.iinc 3 1, 3)) (by decide +kernel : decode zY_4.2.1 39 = .ok (.goto (-24), 3))
theorem zf_zm_4_12 (env : List (Nat × Nat)) : zI9 4 zY_4 zm_4 env (42, 7, 4, 0, 0) 45 := zi_goto (off := (-38)) (t := 4) (by decide +kernel : decode zY_4.2.1 42 = .ok (.goto (-38), 3)) (by decide) (by decide +kernel)
theorem zf_zm_4_13 (env : List (Nat × Nat)) : zI9 4 zY_4 zm_4 env (45, 63, 1, 0, 0) 46 := zi_iload_n (by decide +kernel : decode zY_4.2.1 45 = .ok (.iload_n 1, 1)) rfl
theorem zf_zm_4_14 (env : List (Nat × Nat)) : zR9 4 env (46, 11, 0, 0, 0) := zi_iret (by decide +kernel : decode (zYf 4).2.1 46 = .ok (.ireturn, 1)) rfl
set_option maxRecDepth 100000 in
theorem zc_zm_4 (env : List (Nat × Nat)) : zcode zX (z_QF zEX zcl zft) (z_zm zEX zX zWL zcl zft zYf) zYf zW zET zcl zft (zGv env) 4 zm_4 zm_4.1 := ⟨Or.inl ⟨1, zf_zm_4_0 env, zpc_c⟩,
  Or.inl ⟨2, zf_zm_4_1 env, zpc_c⟩,
  Or.inl ⟨3, zf_zm_4_2 env, zpc_c⟩,
  Or.inl ⟨4, zf_zm_4_3 env, zpc_c⟩,
  Or.inl ⟨5, zf_zm_4_4 env, zpc_c⟩,
  Or.inl ⟨8, zf_zm_4_5 env, zpc_c⟩,
  Or.inl ⟨11, zf_zm_4_6 env, zpc_c⟩,
  Or.inl ⟨12, zf_zm_4_7 env, zpc_c⟩,
  Or.inl ⟨13, zf_zm_4_8 env, zpc_c⟩,
  Or.inl ⟨14, zf_zm_4_9 env, zpc_c⟩,
  Or.inl ⟨15, zf_zm_4_10 env, zpc_c⟩,
  Or.inl ⟨42, zf_zm_4_11 env, zpc_c⟩,
  Or.inl ⟨45, zf_zm_4_12 env, zpc_c⟩,
  Or.inl ⟨46, zf_zm_4_13 env, zpc_c⟩,
  Or.inr (Or.inl (zf_zm_4_14 env)), trivial⟩
