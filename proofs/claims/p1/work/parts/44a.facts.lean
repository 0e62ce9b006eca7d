/-! FACTS (by program) -/
theorem zf_zm_0_0 (env : List (Nat × Nat)) : zI9 0 zY_0 zm_0 env (0, 2, 8, 0, 0) 2 := zi_bipush (by decide +kernel : decode zY_0.2.1 0 = .ok (.bipush 8, 2)) (by decide +kernel)
theorem zf_zm_0_1 (env : List (Nat × Nat)) : zI9 0 zY_0 zm_0 env (2, 10, 1, 0, 0) 3 := zi_istore_n (by decide +kernel : decode zY_0.2.1 2 = .ok (.istore_n 1, 1)) rfl (by decide)
theorem zf_zm_0_2 (env : List (Nat × Nat)) : zI9 0 zY_0 zm_0 env (3, 63, 1, 0, 0) 4 := zi_iload_n (by decide +kernel : decode zY_0.2.1 3 = .ok (.iload_n 1, 1)) rfl
theorem zf_zm_0_3 (env : List (Nat × Nat)) : zI9 0 zY_0 zm_0 env (4, 22, 39, 0, 0) 7 := zi_if_lt (off := 61) (t := 65) (by decide +kernel : decode zY_0.2.1 4 = .ok (.ifCond .lt 61, 3)) (by decide) (by decide +kernel)
theorem zf_zm_0_4 (env : List (Nat × Nat)) : zI9 0 zY_0 zm_0 env (7, 15, 0, 0, 0) 8 := zi_lconst (by decide +kernel : decode zY_0.2.1 7 = .ok (.lconst 0, 1)) (by decide +kernel)
theorem zf_zm_0_5 (env : List (Nat × Nat)) : zI9 0 zY_0 zm_0 env (8, 41, 2, 0, 0) 9 := zi_lstore_n (by decide +kernel : decode zY_0.2.1 8 = .ok (.lstore_n 2, 1)) rfl (by decide)
theorem zf_zm_0_6 (env : List (Nat × Nat)) : zI9 0 zY_0 zm_0 env (9, 2, 0, 0, 0) 10 := zi_iconst (by decide +kernel : decode zY_0.2.1 9 = .ok (.iconst 0, 1)) (by decide +kernel)
theorem zf_zm_0_7 (env : List (Nat × Nat)) : zI9 0 zY_0 zm_0 env (10, 10, 4, 0, 0) 12 := zi_istore (by decide +kernel : decode zY_0.2.1 10 = .ok (.istore 4, 2)) (by decide)
theorem zf_zm_0_8 (env : List (Nat × Nat)) : zI9 0 zY_0 zm_0 env (12, 63, 4, 0, 0) 14 := zi_iload (by decide +kernel : decode zY_0.2.1 12 = .ok (.iload 4, 2))
theorem zf_zm_0_9 (env : List (Nat × Nat)) : zI9 0 zY_0 zm_0 env (14, 2, 3, 0, 0) 15 := zi_iconst (by decide +kernel : decode zY_0.2.1 14 = .ok (.iconst 3, 1)) (by decide +kernel)
theorem zf_zm_0_10 (env : List (Nat × Nat)) : zI9 0 zY_0 zm_0 env (15, 28, 32, 0, 0) 18 := zi_icmp_ge (off := 37) (t := 52) (by decide +kernel : decode zY_0.2.1 15 = .ok (.if_icmp .ge 37, 3)) (by decide) (by decide +kernel)
theorem zf_zm_0_11 (env : List (Nat × Nat)) : zI9 0 zY_0 zm_0 env (18, 63, 4, 0, 0) 20 := zi_iload (by decide +kernel : decode zY_0.2.1 18 = .ok (.iload 4, 2))
theorem zf_zm_0_12 (env : List (Nat × Nat)) : zI9 0 zY_0 zm_0 env (20, 63, 1, 0, 0) 21 := zi_iload_n (by decide +kernel : decode zY_0.2.1 20 = .ok (.iload_n 1, 1)) rfl
theorem zf_zm_0_13 (env : List (Nat × Nat)) : zI9 0 zY_0 zm_0 env (21, 31, 32, 0, 0) 24 := zi_icmp_gt (off := 31) (t := 52) (by decide +kernel : decode zY_0.2.1 21 = .ok (.if_icmp .gt 31, 3)) (by decide) (by decide +kernel)
theorem zf_zm_0_14 (env : List (Nat × Nat)) : zI9 0 zY_0 zm_0 env (24, 64, 2, 0, 0) 25 := zi_lload_n (by decide +kernel : decode zY_0.2.1 24 = .ok (.lload_n 2, 1)) rfl
theorem zf_zm_0_15 (env : List (Nat × Nat)) : zI9 0 zY_0 zm_0 env (25, 0, 0, 0, 0) 26 := zi_aload_n (by decide +kernel : decode zY_0.2.1 25 = .ok (.aload_n 0, 1)) rfl
theorem zf_zm_0_16 (env : List (Nat × Nat)) : zI9 0 zY_0 zm_0 env (26, 1, 17, 3, 2) 29 := zi_getf (i := 20) (N := 25) (C := "TransportPairModel$Seals") (ref := "TransportPairModel$Seals") (T := zF_17) (by decide +kernel : decode zY_0.2.1 26 = .ok (.getfield 20, 3)) rfl zuw_17 (by decide) (zw_T zwd_0) rfl
theorem zf_zm_0_17 (env : List (Nat × Nat)) : zI9 0 zY_0 zm_0 env (29, 63, 1, 0, 0) 30 := zi_iload_n (by decide +kernel : decode zY_0.2.1 29 = .ok (.iload_n 1, 1)) rfl
theorem zf_zm_0_18 (env : List (Nat × Nat)) : zI9 0 zY_0 zm_0 env (30, 63, 4, 0, 0) 32 := zi_iload (by decide +kernel : decode zY_0.2.1 30 = .ok (.iload 4, 2))
theorem zf_zm_0_19 (env : List (Nat × Nat)) : zI9 0 zY_0 zm_0 env (32, 37, 0, 0, 0) 33 := zi_isub (by decide +kernel : decode zY_0.2.1 32 = .ok (.isub, 1))
theorem zf_zm_0_20 (env : List (Nat × Nat)) : zI9 0 zY_0 zm_0 env (33, 8, 0, 0, 0) 34 := zi_iald (zscr_ok (by decide +kernel : decode zY_0.2.1 33 = .ok (.iaload, 1))) (by decide +kernel : decode zY_0.2.1 33 = .ok (.iaload, 1))
theorem zf_zm_0_21 (env : List (Nat × Nat)) : zI9 0 zY_0 zm_0 env (34, 16, 0, 0, 0) 35 := zi_i2l (by decide +kernel : decode zY_0.2.1 34 = .ok (.i2l, 1))
theorem zf_zm_0_22 (env : List (Nat × Nat)) : zI9 0 zY_0 zm_0 env (35, 0, 0, 0, 0) 36 := zi_aload_n (by decide +kernel : decode zY_0.2.1 35 = .ok (.aload_n 0, 1)) rfl
theorem zf_zm_0_23 (env : List (Nat × Nat)) : zI9 0 zY_0 zm_0 env (36, 1, 17, 2, 2) 39 := zi_getf (i := 16) (N := 25) (C := "TransportPairModel$Seals") (ref := "TransportPairModel$Seals") (T := zF_17) (by decide +kernel : decode zY_0.2.1 36 = .ok (.getfield 16, 3)) rfl zuw_17 (by decide) (zw_T zwd_1) rfl
theorem zf_zm_0_24 (env : List (Nat × Nat)) : zI9 0 zY_0 zm_0 env (39, 63, 4, 0, 0) 41 := zi_iload (by decide +kernel : decode zY_0.2.1 39 = .ok (.iload 4, 2))
theorem zf_zm_0_25 (env : List (Nat × Nat)) : zI9 0 zY_0 zm_0 env (41, 8, 0, 0, 0) 42 := zi_iald (zscr_ok (by decide +kernel : decode zY_0.2.1 41 = .ok (.iaload, 1))) (by decide +kernel : decode zY_0.2.1 41 = .ok (.iaload, 1))
theorem zf_zm_0_26 (env : List (Nat × Nat)) : zI9 0 zY_0 zm_0 env (42, 16, 0, 0, 0) 43 := zi_i2l (by decide +kernel : decode zY_0.2.1 42 = .ok (.i2l, 1))
theorem zf_zm_0_27 (env : List (Nat × Nat)) : zI9 0 zY_0 zm_0 env (43, 70, 0, 0, 0) 44 := zi_lmul (by decide +kernel : decode zY_0.2.1 43 = .ok (.lmul, 1))
theorem zf_zm_0_28 (env : List (Nat × Nat)) : zI9 0 zY_0 zm_0 env (44, 50, 0, 0, 0) 45 := zi_ladd (by decide +kernel : decode zY_0.2.1 44 = .ok (.ladd, 1))
theorem zf_zm_0_29 (env : List (Nat × Nat)) : zI9 0 zY_0 zm_0 env (45, 41, 2, 0, 0) 46 := zi_lstore_n (by decide +kernel : decode zY_0.2.1 45 = .ok (.lstore_n 2, 1)) rfl (by decide)
theorem zf_zm_0_30 (env : List (Nat × Nat)) : zI9 0 zY_0 zm_0 env (46, 35, 4, 1, 0) 49 := zi_iinc (by decide +kernel : decode zY_0.2.1 46 = .ok (.iinc 4 1, 3)) (by decide +kernel) (by decide)
theorem zf_zm_0_31 (env : List (Nat × Nat)) : zI9 0 zY_0 zm_0 env (49, 7, 8, 0, 0) 52 := zi_goto (off := (-37)) (t := 12) (by decide +kernel : decode zY_0.2.1 49 = .ok (.goto (-37), 3)) (by decide) (by decide +kernel)
theorem zf_zm_0_32 (env : List (Nat × Nat)) : zI9 0 zY_0 zm_0 env (52, 0, 0, 0, 0) 53 := zi_aload_n (by decide +kernel : decode zY_0.2.1 52 = .ok (.aload_n 0, 1)) rfl
theorem zf_zm_0_33 (env : List (Nat × Nat)) : zI9 0 zY_0 zm_0 env (53, 1, 17, 5, 2) 56 := zi_getf (i := 26) (N := 25) (C := "TransportPairModel$Seals") (ref := "TransportPairModel$Seals") (T := zF_17) (by decide +kernel : decode zY_0.2.1 53 = .ok (.getfield 26, 3)) rfl zuw_17 (by decide) (zw_T zwd_2) rfl
theorem zf_zm_0_34 (env : List (Nat × Nat)) : zI9 0 zY_0 zm_0 env (56, 63, 1, 0, 0) 57 := zi_iload_n (by decide +kernel : decode zY_0.2.1 56 = .ok (.iload_n 1, 1)) rfl
theorem zf_zm_0_35 (env : List (Nat × Nat)) : zI9 0 zY_0 zm_0 env (57, 64, 2, 0, 0) 58 := zi_lload_n (by decide +kernel : decode zY_0.2.1 57 = .ok (.lload_n 2, 1)) rfl
theorem zf_zm_0_36 (env : List (Nat × Nat)) : zI9 0 zY_0 zm_0 env (58, 18, 0, 0, 0) 59 := zi_last (by decide +kernel : decode zY_0.2.1 58 = .ok (.lastore, 1))
theorem zf_zm_0_37 (env : List (Nat × Nat)) : zI9 0 zY_0 zm_0 env (59, 35, 1, 4294967295, 0) 62 := zi_iinc (by decide +kernel : decode zY_0.2.1 59 = .ok (.iinc 1 (-1), 3)) (by decide +kernel) (by decide)
theorem zf_zm_0_38 (env : List (Nat × Nat)) : zI9 0 zY_0 zm_0 env (62, 7, 2, 0, 0) 65 := zi_goto (off := (-59)) (t := 3) (by decide +kernel : decode zY_0.2.1 62 = .ok (.goto (-59), 3)) (by decide) (by decide +kernel)
theorem zf_zm_0_39 (env : List (Nat × Nat)) : zI9 0 zY_0 zm_0 env (65, 15, 0, 0, 0) 66 := zi_lconst (by decide +kernel : decode zY_0.2.1 65 = .ok (.lconst 0, 1)) (by decide +kernel)
theorem zf_zm_0_40 (env : List (Nat × Nat)) : zI9 0 zY_0 zm_0 env (66, 41, 1, 0, 0) 67 := zi_lstore_n (by decide +kernel : decode zY_0.2.1 66 = .ok (.lstore_n 1, 1)) rfl (by decide)
theorem zf_zm_0_41 (env : List (Nat × Nat)) : zI9 0 zY_0 zm_0 env (67, 2, 0, 0, 0) 68 := zi_iconst (by decide +kernel : decode zY_0.2.1 67 = .ok (.iconst 0, 1)) (by decide +kernel)
theorem zf_zm_0_42 (env : List (Nat × Nat)) : zI9 0 zY_0 zm_0 env (68, 10, 3, 0, 0) 69 := zi_istore_n (by decide +kernel : decode zY_0.2.1 68 = .ok (.istore_n 3, 1)) rfl (by decide)
theorem zf_zm_0_43 (env : List (Nat × Nat)) : zI9 0 zY_0 zm_0 env (69, 63, 3, 0, 0) 70 := zi_iload_n (by decide +kernel : decode zY_0.2.1 69 = .ok (.iload_n 3, 1)) rfl
theorem zf_zm_0_44 (env : List (Nat × Nat)) : zI9 0 zY_0 zm_0 env (70, 2, 9, 0, 0) 72 := zi_bipush (by decide +kernel : decode zY_0.2.1 70 = .ok (.bipush 9, 2)) (by decide +kernel)
theorem zf_zm_0_45 (env : List (Nat × Nat)) : zI9 0 zY_0 zm_0 env (72, 28, 67, 0, 0) 75 := zi_icmp_ge (off := 35) (t := 107) (by decide +kernel : decode zY_0.2.1 72 = .ok (.if_icmp .ge 35, 3)) (by decide) (by decide +kernel)
theorem zf_zm_0_46 (env : List (Nat × Nat)) : zI9 0 zY_0 zm_0 env (75, 64, 1, 0, 0) 76 := zi_lload_n (by decide +kernel : decode zY_0.2.1 75 = .ok (.lload_n 1, 1)) rfl
theorem zf_zm_0_47 (env : List (Nat × Nat)) : zI9 0 zY_0 zm_0 env (76, 0, 0, 0, 0) 77 := zi_aload_n (by decide +kernel : decode zY_0.2.1 76 = .ok (.aload_n 0, 1)) rfl
theorem zf_zm_0_48 (env : List (Nat × Nat)) : zI9 0 zY_0 zm_0 env (77, 1, 17, 5, 2) 80 := zi_getf (i := 26) (N := 25) (C := "TransportPairModel$Seals") (ref := "TransportPairModel$Seals") (T := zF_17) (by decide +kernel : decode zY_0.2.1 77 = .ok (.getfield 26, 3)) rfl zuw_17 (by decide) (zw_T zwd_2) rfl
theorem zf_zm_0_49 (env : List (Nat × Nat)) : zI9 0 zY_0 zm_0 env (80, 63, 3, 0, 0) 81 := zi_iload_n (by decide +kernel : decode zY_0.2.1 80 = .ok (.iload_n 3, 1)) rfl
theorem zf_zm_0_50 (env : List (Nat × Nat)) : zI9 0 zY_0 zm_0 env (81, 26, 0, 0, 0) 82 := zi_lald (by decide +kernel : decode zY_0.2.1 81 = .ok (.laload, 1))
theorem zf_zm_0_51 (env : List (Nat × Nat)) : zI9 0 zY_0 zm_0 env (82, 50, 0, 0, 0) 83 := zi_ladd (by decide +kernel : decode zY_0.2.1 82 = .ok (.ladd, 1))
theorem zf_zm_0_52 (env : List (Nat × Nat)) : zI9 0 zY_0 zm_0 env (83, 41, 1, 0, 0) 84 := zi_lstore_n (by decide +kernel : decode zY_0.2.1 83 = .ok (.lstore_n 1, 1)) rfl (by decide)
theorem zf_zm_0_53 (env : List (Nat × Nat)) : zI9 0 zY_0 zm_0 env (84, 0, 0, 0, 0) 85 := zi_aload_n (by decide +kernel : decode zY_0.2.1 84 = .ok (.aload_n 0, 1)) rfl
theorem zf_zm_0_54 (env : List (Nat × Nat)) : zI9 0 zY_0 zm_0 env (85, 1, 17, 3, 2) 88 := zi_getf (i := 20) (N := 25) (C := "TransportPairModel$Seals") (ref := "TransportPairModel$Seals") (T := zF_17) (by decide +kernel : decode zY_0.2.1 85 = .ok (.getfield 20, 3)) rfl zuw_17 (by decide) (zw_T zwd_0) rfl
theorem zf_zm_0_55 (env : List (Nat × Nat)) : zI9 0 zY_0 zm_0 env (88, 63, 3, 0, 0) 89 := zi_iload_n (by decide +kernel : decode zY_0.2.1 88 = .ok (.iload_n 3, 1)) rfl
theorem zf_zm_0_56 (env : List (Nat × Nat)) : zI9 0 zY_0 zm_0 env (89, 64, 1, 0, 0) 90 := zi_lload_n (by decide +kernel : decode zY_0.2.1 89 = .ok (.lload_n 1, 1)) rfl
theorem zf_zm_0_57 (env : List (Nat × Nat)) : zI9 0 zY_0 zm_0 env (90, 15, 65535, 0, 0) 93 := zi_ldc2 (v := 65535) (by decide +kernel : decode zY_0.2.1 90 = .ok (.ldc2_w 94, 3)) (by decide +kernel) (zw_T zwd_3)
theorem zf_zm_0_58 (env : List (Nat × Nat)) : zI9 0 zY_0 zm_0 env (93, 70, 0, 0, 0) 94 := zi_land (by decide +kernel : decode zY_0.2.1 93 = .ok (.land, 1))
theorem zf_zm_0_59 (env : List (Nat × Nat)) : zI9 0 zY_0 zm_0 env (94, 52, 0, 0, 0) 95 := zi_l2i (by decide +kernel : decode zY_0.2.1 94 = .ok (.l2i, 1))
theorem zf_zm_0_60 (env : List (Nat × Nat)) : zI9 0 zY_0 zm_0 env (95, 32, 0, 0, 0) 96 := zi_iast (by decide +kernel : decode zY_0.2.1 95 = .ok (.iastore, 1))
theorem zf_zm_0_61 (env : List (Nat × Nat)) : zI9 0 zY_0 zm_0 env (96, 64, 1, 0, 0) 97 := zi_lload_n (by decide +kernel : decode zY_0.2.1 96 = .ok (.lload_n 1, 1)) rfl
theorem zf_zm_0_62 (env : List (Nat × Nat)) : zI9 0 zY_0 zm_0 env (97, 2, 16, 0, 0) 99 := zi_bipush (by decide +kernel : decode zY_0.2.1 97 = .ok (.bipush 16, 2)) (by decide +kernel)
theorem zf_zm_0_63 (env : List (Nat × Nat)) : zI9 0 zY_0 zm_0 env (99, 71, 0, 0, 0) 100 := zi_lshr (by decide +kernel : decode zY_0.2.1 99 = .ok (.lshr, 1))
theorem zf_zm_0_64 (env : List (Nat × Nat)) : zI9 0 zY_0 zm_0 env (100, 41, 1, 0, 0) 101 := zi_lstore_n (by decide +kernel : decode zY_0.2.1 100 = .ok (.lstore_n 1, 1)) rfl (by decide)
theorem zf_zm_0_65 (env : List (Nat × Nat)) : zI9 0 zY_0 zm_0 env (101, 35, 3, 1, 0) 104 := zi_iinc (by decide +kernel : decode zY_0.2.1 101 = .ok (.iinc 3 1, 3)) (by decide +kernel) (by decide)
theorem zf_zm_0_66 (env : List (Nat × Nat)) : zI9 0 zY_0 zm_0 env (104, 7, 43, 0, 0) 107 := zi_goto (off := (-35)) (t := 69) (by decide +kernel : decode zY_0.2.1 104 = .ok (.goto (-35), 3)) (by decide) (by decide +kernel)
theorem zf_zm_0_67 (env : List (Nat × Nat)) : zR9 0 env (107, 21, 0, 0, 0) := zi_vret (by decide +kernel : decode (zYf 0).2.1 107 = .ok (.return_, 1)) rfl
set_option maxRecDepth 100000 in
theorem zc_zm_0 (env : List (Nat × Nat)) : zcode zX (z_QF zEX zcl zft) (z_zm zEX zX zWL zcl zft zYf) zYf zW zET zcl zft (zGv env) 0 zm_0 zm_0.1 := ⟨Or.inl ⟨2, zf_zm_0_0 env, zpc_c⟩,
  Or.inl ⟨3, zf_zm_0_1 env, zpc_c⟩,
  Or.inl ⟨4, zf_zm_0_2 env, zpc_c⟩,
  Or.inl ⟨7, zf_zm_0_3 env, zpc_c⟩,
  Or.inl ⟨8, zf_zm_0_4 env, zpc_c⟩,
  Or.inl ⟨9, zf_zm_0_5 env, zpc_c⟩,
  Or.inl ⟨10, zf_zm_0_6 env, zpc_c⟩,
  Or.inl ⟨12, zf_zm_0_7 env, zpc_c⟩,
  Or.inl ⟨14, zf_zm_0_8 env, zpc_c⟩,
  Or.inl ⟨15, zf_zm_0_9 env, zpc_c⟩,
  Or.inl ⟨18, zf_zm_0_10 env, zpc_c⟩,
  Or.inl ⟨20, zf_zm_0_11 env, zpc_c⟩,
  Or.inl ⟨21, zf_zm_0_12 env, zpc_c⟩,
  Or.inl ⟨24, zf_zm_0_13 env, zpc_c⟩,
  Or.inl ⟨25, zf_zm_0_14 env, zpc_c⟩,
  Or.inl ⟨26, zf_zm_0_15 env, zpc_c⟩,
  Or.inl ⟨29, zf_zm_0_16 env, zpc_c⟩,
  Or.inl ⟨30, zf_zm_0_17 env, zpc_c⟩,
  Or.inl ⟨32, zf_zm_0_18 env, zpc_c⟩,
  Or.inl ⟨33, zf_zm_0_19 env, zpc_c⟩,
  Or.inl ⟨34, zf_zm_0_20 env, zpc_c⟩,
  Or.inl ⟨35, zf_zm_0_21 env, zpc_c⟩,
  Or.inl ⟨36, zf_zm_0_22 env, zpc_c⟩,
  Or.inl ⟨39, zf_zm_0_23 env, zpc_c⟩,
  Or.inl ⟨41, zf_zm_0_24 env, zpc_c⟩,
  Or.inl ⟨42, zf_zm_0_25 env, zpc_c⟩,
  Or.inl ⟨43, zf_zm_0_26 env, zpc_c⟩,
  Or.inl ⟨44, zf_zm_0_27 env, zpc_c⟩,
  Or.inl ⟨45, zf_zm_0_28 env, zpc_c⟩,
  Or.inl ⟨46, zf_zm_0_29 env, zpc_c⟩,
  Or.inl ⟨49, zf_zm_0_30 env, zpc_c⟩,
  Or.inl ⟨52, zf_zm_0_31 env, zpc_c⟩,
  Or.inl ⟨53, zf_zm_0_32 env, zpc_c⟩,
  Or.inl ⟨56, zf_zm_0_33 env, zpc_c⟩,
  Or.inl ⟨57, zf_zm_0_34 env, zpc_c⟩,
  Or.inl ⟨58, zf_zm_0_35 env, zpc_c⟩,
  Or.inl ⟨59, zf_zm_0_36 env, zpc_c⟩,
  Or.inl ⟨62, zf_zm_0_37 env, zpc_c⟩,
  Or.inl ⟨65, zf_zm_0_38 env, zpc_c⟩,
  Or.inl ⟨66, zf_zm_0_39 env, zpc_c⟩,
  Or.inl ⟨67, zf_zm_0_40 env, zpc_c⟩,
  Or.inl ⟨68, zf_zm_0_41 env, zpc_c⟩,
  Or.inl ⟨69, zf_zm_0_42 env, zpc_c⟩,
  Or.inl ⟨70, zf_zm_0_43 env, zpc_c⟩,
  Or.inl ⟨72, zf_zm_0_44 env, zpc_c⟩,
  Or.inl ⟨75, zf_zm_0_45 env, zpc_c⟩,
  Or.inl ⟨76, zf_zm_0_46 env, zpc_c⟩,
  Or.inl ⟨77, zf_zm_0_47 env, zpc_c⟩,
  Or.inl ⟨80, zf_zm_0_48 env, zpc_c⟩,
  Or.inl ⟨81, zf_zm_0_49 env, zpc_c⟩,
  Or.inl ⟨82, zf_zm_0_50 env, zpc_c⟩,
  Or.inl ⟨83, zf_zm_0_51 env, zpc_c⟩,
  Or.inl ⟨84, zf_zm_0_52 env, zpc_c⟩,
  Or.inl ⟨85, zf_zm_0_53 env, zpc_c⟩,
  Or.inl ⟨88, zf_zm_0_54 env, zpc_c⟩,
  Or.inl ⟨89, zf_zm_0_55 env, zpc_c⟩,
  Or.inl ⟨90, zf_zm_0_56 env, zpc_c⟩,
  Or.inl ⟨93, zf_zm_0_57 env, zpc_c⟩,
  Or.inl ⟨94, zf_zm_0_58 env, zpc_c⟩,
  Or.inl ⟨95, zf_zm_0_59 env, zpc_c⟩,
  Or.inl ⟨96, zf_zm_0_60 env, zpc_c⟩,
  Or.inl ⟨97, zf_zm_0_61 env, zpc_c⟩,
  Or.inl ⟨99, zf_zm_0_62 env, zpc_c⟩,
  Or.inl ⟨100, zf_zm_0_63 env, zpc_c⟩,
  Or.inl ⟨101, zf_zm_0_64 env, zpc_c⟩,
  Or.inl ⟨104, zf_zm_0_65 env, zpc_c⟩,
  Or.inl ⟨107, zf_zm_0_66 env, zpc_c⟩,
  Or.inr (Or.inl (zf_zm_0_67 env)), trivial⟩
theorem zf_zm_1_0 (env : List (Nat × Nat)) : zI9 1 zY_1 zm_1 env (0, 2, 0, 0, 0) 1 := zi_iconst (by decide +kernel : decode zY_1.2.1 0 = .ok (.iconst 0, 1)) (by decide +kernel)
theorem zf_zm_1_1 (env : List (Nat × Nat)) : zI9 1 zY_1 zm_1 env (1, 10, 5, 0, 0) 3 := zi_istore (by decide +kernel : decode zY_1.2.1 1 = .ok (.istore 5, 2)) (by decide)
theorem zf_zm_1_2 (env : List (Nat × Nat)) : zI9 1 zY_1 zm_1 env (3, 63, 5, 0, 0) 5 := zi_iload (by decide +kernel : decode zY_1.2.1 3 = .ok (.iload 5, 2))
theorem zf_zm_1_3 (env : List (Nat × Nat)) : zI9 1 zY_1 zm_1 env (5, 2, 9, 0, 0) 7 := zi_bipush (by decide +kernel : decode zY_1.2.1 5 = .ok (.bipush 9, 2)) (by decide +kernel)
theorem zf_zm_1_4 (env : List (Nat × Nat)) : zI9 1 zY_1 zm_1 env (7, 28, 12, 0, 0) 10 := zi_icmp_ge (off := 17) (t := 24) (by decide +kernel : decode zY_1.2.1 7 = .ok (.if_icmp .ge 17, 3)) (by decide) (by decide +kernel)
theorem zf_zm_1_5 (env : List (Nat × Nat)) : zI9 1 zY_1 zm_1 env (10, 0, 0, 0, 0) 11 := zi_aload_n (by decide +kernel : decode zY_1.2.1 10 = .ok (.aload_n 0, 1)) rfl
theorem zf_zm_1_6 (env : List (Nat × Nat)) : zI9 1 zY_1 zm_1 env (11, 1, 17, 3, 2) 14 := zi_getf (i := 20) (N := 25) (C := "TransportPairModel$Seals") (ref := "TransportPairModel$Seals") (T := zF_17) (by decide +kernel : decode zY_1.2.1 11 = .ok (.getfield 20, 3)) rfl zuw_17 (by decide) (zw_T zwd_0) rfl
theorem zf_zm_1_7 (env : List (Nat × Nat)) : zI9 1 zY_1 zm_1 env (14, 63, 5, 0, 0) 16 := zi_iload (by decide +kernel : decode zY_1.2.1 14 = .ok (.iload 5, 2))
theorem zf_zm_1_8 (env : List (Nat × Nat)) : zI9 1 zY_1 zm_1 env (16, 2, 0, 0, 0) 17 := zi_iconst (by decide +kernel : decode zY_1.2.1 16 = .ok (.iconst 0, 1)) (by decide +kernel)
theorem zf_zm_1_9 (env : List (Nat × Nat)) : zI9 1 zY_1 zm_1 env (17, 32, 0, 0, 0) 18 := zi_iast (by decide +kernel : decode zY_1.2.1 17 = .ok (.iastore, 1))
theorem zf_zm_1_10 (env : List (Nat × Nat)) : zI9 1 zY_1 zm_1 env (18, 35, 5, 1, 0) 21 := zi_iinc (by decide +kernel : decode zY_1.2.1 18 = .ok (.iinc 5 1, 3)) (by decide +kernel) (by decide)
theorem zf_zm_1_11 (env : List (Nat × Nat)) : zI9 1 zY_1 zm_1 env (21, 7, 2, 0, 0) 24 := zi_goto (off := (-18)) (t := 3) (by decide +kernel : decode zY_1.2.1 21 = .ok (.goto (-18), 3)) (by decide) (by decide +kernel)
theorem zf_zm_1_12 (env : List (Nat × Nat)) : zI9 1 zY_1 zm_1 env (24, 0, 0, 0, 0) 25 := zi_aload_n (by decide +kernel : decode zY_1.2.1 24 = .ok (.aload_n 0, 1)) rfl
theorem zf_zm_1_13 (env : List (Nat × Nat)) : zI9 1 zY_1 zm_1 env (25, 1, 17, 3, 2) 28 := zi_getf (i := 20) (N := 25) (C := "TransportPairModel$Seals") (ref := "TransportPairModel$Seals") (T := zF_17) (by decide +kernel : decode zY_1.2.1 25 = .ok (.getfield 20, 3)) rfl zuw_17 (by decide) (zw_T zwd_0) rfl
theorem zf_zm_1_14 (env : List (Nat × Nat)) : zI9 1 zY_1 zm_1 env (28, 2, 0, 0, 0) 29 := zi_iconst (by decide +kernel : decode zY_1.2.1 28 = .ok (.iconst 0, 1)) (by decide +kernel)
theorem zf_zm_1_15 (env : List (Nat × Nat)) : zI9 1 zY_1 zm_1 env (29, 2, 1, 0, 0) 30 := zi_iconst (by decide +kernel : decode zY_1.2.1 29 = .ok (.iconst 1, 1)) (by decide +kernel)
theorem zf_zm_1_16 (env : List (Nat × Nat)) : zI9 1 zY_1 zm_1 env (30, 32, 0, 0, 0) 31 := zi_iast (by decide +kernel : decode zY_1.2.1 30 = .ok (.iastore, 1))
theorem zf_zm_1_17 (env : List (Nat × Nat)) : zI9 1 zY_1 zm_1 env (31, 2, 0, 0, 0) 32 := zi_iconst (by decide +kernel : decode zY_1.2.1 31 = .ok (.iconst 0, 1)) (by decide +kernel)
theorem zf_zm_1_18 (env : List (Nat × Nat)) : zI9 1 zY_1 zm_1 env (32, 10, 5, 0, 0) 34 := zi_istore (by decide +kernel : decode zY_1.2.1 32 = .ok (.istore 5, 2)) (by decide)
theorem zf_zm_1_19 (env : List (Nat × Nat)) : zI9 1 zY_1 zm_1 env (34, 63, 5, 0, 0) 36 := zi_iload (by decide +kernel : decode zY_1.2.1 34 = .ok (.iload 5, 2))
theorem zf_zm_1_20 (env : List (Nat × Nat)) : zI9 1 zY_1 zm_1 env (36, 2, 3, 0, 0) 37 := zi_iconst (by decide +kernel : decode zY_1.2.1 36 = .ok (.iconst 3, 1)) (by decide +kernel)
theorem zf_zm_1_21 (env : List (Nat × Nat)) : zI9 1 zY_1 zm_1 env (37, 28, 36, 0, 0) 40 := zi_icmp_ge (off := 28) (t := 65) (by decide +kernel : decode zY_1.2.1 37 = .ok (.if_icmp .ge 28, 3)) (by decide) (by decide +kernel)
theorem zf_zm_1_22 (env : List (Nat × Nat)) : zI9 1 zY_1 zm_1 env (40, 0, 0, 0, 0) 41 := zi_aload_n (by decide +kernel : decode zY_1.2.1 40 = .ok (.aload_n 0, 1)) rfl
theorem zf_zm_1_23 (env : List (Nat × Nat)) : zI9 1 zY_1 zm_1 env (41, 1, 17, 2, 2) 44 := zi_getf (i := 16) (N := 25) (C := "TransportPairModel$Seals") (ref := "TransportPairModel$Seals") (T := zF_17) (by decide +kernel : decode zY_1.2.1 41 = .ok (.getfield 16, 3)) rfl zuw_17 (by decide) (zw_T zwd_1) rfl
theorem zf_zm_1_24 (env : List (Nat × Nat)) : zI9 1 zY_1 zm_1 env (44, 63, 5, 0, 0) 46 := zi_iload (by decide +kernel : decode zY_1.2.1 44 = .ok (.iload 5, 2))
theorem zf_zm_1_25 (env : List (Nat × Nat)) : zI9 1 zY_1 zm_1 env (46, 64, 1, 0, 0) 47 := zi_lload_n (by decide +kernel : decode zY_1.2.1 46 = .ok (.lload_n 1, 1)) rfl
theorem zf_zm_1_26 (env : List (Nat × Nat)) : zI9 1 zY_1 zm_1 env (47, 2, 16, 0, 0) 49 := zi_bipush (by decide +kernel : decode zY_1.2.1 47 = .ok (.bipush 16, 2)) (by decide +kernel)
theorem zf_zm_1_27 (env : List (Nat × Nat)) : zI9 1 zY_1 zm_1 env (49, 63, 5, 0, 0) 51 := zi_iload (by decide +kernel : decode zY_1.2.1 49 = .ok (.iload 5, 2))
theorem zf_zm_1_28 (env : List (Nat × Nat)) : zI9 1 zY_1 zm_1 env (51, 36, 0, 0, 0) 52 := zi_imul (by decide +kernel : decode zY_1.2.1 51 = .ok (.imul, 1))
theorem zf_zm_1_29 (env : List (Nat × Nat)) : zI9 1 zY_1 zm_1 env (52, 71, 0, 0, 0) 53 := zi_lshr (by decide +kernel : decode zY_1.2.1 52 = .ok (.lshr, 1))
theorem zf_zm_1_30 (env : List (Nat × Nat)) : zI9 1 zY_1 zm_1 env (53, 15, 65535, 0, 0) 56 := zi_ldc2 (v := 65535) (by decide +kernel : decode zY_1.2.1 53 = .ok (.ldc2_w 94, 3)) (by decide +kernel) (zw_T zwd_3)
theorem zf_zm_1_31 (env : List (Nat × Nat)) : zI9 1 zY_1 zm_1 env (56, 70, 0, 0, 0) 57 := zi_land (by decide +kernel : decode zY_1.2.1 56 = .ok (.land, 1))
theorem zf_zm_1_32 (env : List (Nat × Nat)) : zI9 1 zY_1 zm_1 env (57, 52, 0, 0, 0) 58 := zi_l2i (by decide +kernel : decode zY_1.2.1 57 = .ok (.l2i, 1))
theorem zf_zm_1_33 (env : List (Nat × Nat)) : zI9 1 zY_1 zm_1 env (58, 32, 0, 0, 0) 59 := zi_iast (by decide +kernel : decode zY_1.2.1 58 = .ok (.iastore, 1))
theorem zf_zm_1_34 (env : List (Nat × Nat)) : zI9 1 zY_1 zm_1 env (59, 35, 5, 1, 0) 62 := zi_iinc (by decide +kernel : decode zY_1.2.1 59 = .ok (.iinc 5 1, 3)) (by decide +kernel) (by decide)
theorem zf_zm_1_35 (env : List (Nat × Nat)) : zI9 1 zY_1 zm_1 env (62, 7, 19, 0, 0) 65 := zi_goto (off := (-28)) (t := 34) (by decide +kernel : decode zY_1.2.1 62 = .ok (.goto (-28), 3)) (by decide) (by decide +kernel)
theorem zf_zm_1_36 (env : List (Nat × Nat)) : zI9 1 zY_1 zm_1 env (65, 2, 0, 0, 0) 66 := zi_iconst (by decide +kernel : decode zY_1.2.1 65 = .ok (.iconst 0, 1)) (by decide +kernel)
theorem zf_zm_1_37 (env : List (Nat × Nat)) : zI9 1 zY_1 zm_1 env (66, 10, 5, 0, 0) 68 := zi_istore (by decide +kernel : decode zY_1.2.1 66 = .ok (.istore 5, 2)) (by decide)
theorem zf_zm_1_38 (env : List (Nat × Nat)) : zI9 1 zY_1 zm_1 env (68, 63, 5, 0, 0) 70 := zi_iload (by decide +kernel : decode zY_1.2.1 68 = .ok (.iload 5, 2))
theorem zf_zm_1_39 (env : List (Nat × Nat)) : zI9 1 zY_1 zm_1 env (70, 63, 4, 0, 0) 72 := zi_iload (by decide +kernel : decode zY_1.2.1 70 = .ok (.iload 4, 2))
theorem zf_zm_1_40 (env : List (Nat × Nat)) : zI9 1 zY_1 zm_1 env (72, 28, 45, 0, 0) 75 := zi_icmp_ge (off := 13) (t := 85) (by decide +kernel : decode zY_1.2.1 72 = .ok (.if_icmp .ge 13, 3)) (by decide) (by decide +kernel)
theorem zf_zm_1_41 (env : List (Nat × Nat)) : zI9 1 zY_1 zm_1 env (75, 0, 0, 0, 0) 76 := zi_aload_n (by decide +kernel : decode zY_1.2.1 75 = .ok (.aload_n 0, 1)) rfl
theorem zf_zm_1_42 (env : List (Nat × Nat)) : zC9 1 zm_1 env (76, 66, 0, 69, 19) := zi_call (by decide +kernel) (zr_V (i := 96) (n := 0) (q := ("TransportPairModel$Seals", zF_17, 25)) zX_ok rfl (zgood_0) (by decide +kernel) (zw_T zwd_4) (zw_T zwd_5) (zw_T zwd_6) rfl (zw_T (zt_sel (y := ⟨"TransportPairModel$Seals","times","()V"⟩) (n := 25) 100 (by decide +kernel))) ⟨by decide +kernel, by decide +kernel, by decide +kernel⟩ rfl (by decide +kernel : decode (zYf 1).2.1 76 = .ok (.invokevirtual 96, 3)))
theorem zf_zm_1_43 (env : List (Nat × Nat)) : zI9 1 zY_1 zm_1 env (79, 35, 5, 1, 0) 82 := zi_iinc (by decide +kernel : decode zY_1.2.1 79 = .ok (.iinc 5 1, 3)) (by decide +kernel) (by decide)
theorem zf_zm_1_44 (env : List (Nat × Nat)) : zI9 1 zY_1 zm_1 env (82, 7, 38, 0, 0) 85 := zi_goto (off := (-14)) (t := 68) (by decide +kernel : decode zY_1.2.1 82 = .ok (.goto (-14), 3)) (by decide) (by decide +kernel)
theorem zf_zm_1_45 (env : List (Nat × Nat)) : zI9 1 zY_1 zm_1 env (85, 2, 8, 0, 0) 87 := zi_bipush (by decide +kernel : decode zY_1.2.1 85 = .ok (.bipush 8, 2)) (by decide +kernel)
theorem zf_zm_1_46 (env : List (Nat × Nat)) : zI9 1 zY_1 zm_1 env (87, 10, 5, 0, 0) 89 := zi_istore (by decide +kernel : decode zY_1.2.1 87 = .ok (.istore 5, 2)) (by decide)
theorem zf_zm_1_47 (env : List (Nat × Nat)) : zI9 1 zY_1 zm_1 env (89, 63, 5, 0, 0) 91 := zi_iload (by decide +kernel : decode zY_1.2.1 89 = .ok (.iload 5, 2))
theorem zf_zm_1_48 (env : List (Nat × Nat)) : zI9 1 zY_1 zm_1 env (91, 22, 76, 0, 0) 94 := zi_if_lt (off := 55) (t := 146) (by decide +kernel : decode zY_1.2.1 91 = .ok (.ifCond .lt 55, 3)) (by decide) (by decide +kernel)
theorem zf_zm_1_49 (env : List (Nat × Nat)) : zI9 1 zY_1 zm_1 env (94, 63, 5, 0, 0) 96 := zi_iload (by decide +kernel : decode zY_1.2.1 94 = .ok (.iload 5, 2))
theorem zf_zm_1_50 (env : List (Nat × Nat)) : zI9 1 zY_1 zm_1 env (96, 2, 2, 0, 0) 97 := zi_iconst (by decide +kernel : decode zY_1.2.1 96 = .ok (.iconst 2, 1)) (by decide +kernel)
theorem zf_zm_1_51 (env : List (Nat × Nat)) : zI9 1 zY_1 zm_1 env (97, 63, 4, 0, 0) 99 := zi_iload (by decide +kernel : decode zY_1.2.1 97 = .ok (.iload 4, 2))
theorem zf_zm_1_52 (env : List (Nat × Nat)) : zI9 1 zY_1 zm_1 env (99, 36, 0, 0, 0) 100 := zi_imul (by decide +kernel : decode zY_1.2.1 99 = .ok (.imul, 1))
theorem zf_zm_1_53 (env : List (Nat × Nat)) : zI9 1 zY_1 zm_1 env (100, 29, 56, 0, 0) 103 := zi_icmp_ne (off := 7) (t := 107) (by decide +kernel : decode zY_1.2.1 100 = .ok (.if_icmp .ne 7, 3)) (by decide) (by decide +kernel)
theorem zf_zm_1_54 (env : List (Nat × Nat)) : zI9 1 zY_1 zm_1 env (103, 63, 3, 0, 0) 104 := zi_iload_n (by decide +kernel : decode zY_1.2.1 103 = .ok (.iload_n 3, 1)) rfl
theorem zf_zm_1_55 (env : List (Nat × Nat)) : zI9 1 zY_1 zm_1 env (104, 7, 57, 0, 0) 107 := zi_goto (off := 4) (t := 108) (by decide +kernel : decode zY_1.2.1 104 = .ok (.goto 4, 3)) (by decide) (by decide +kernel)
theorem zf_zm_1_56 (env : List (Nat × Nat)) : zI9 1 zY_1 zm_1 env (107, 2, 0, 0, 0) 108 := zi_iconst (by decide +kernel : decode zY_1.2.1 107 = .ok (.iconst 0, 1)) (by decide +kernel)
theorem zf_zm_1_57 (env : List (Nat × Nat)) : zI9 1 zY_1 zm_1 env (108, 10, 6, 0, 0) 110 := zi_istore (by decide +kernel : decode zY_1.2.1 108 = .ok (.istore 6, 2)) (by decide)
theorem zf_zm_1_58 (env : List (Nat × Nat)) : zI9 1 zY_1 zm_1 env (110, 0, 0, 0, 0) 111 := zi_aload_n (by decide +kernel : decode zY_1.2.1 110 = .ok (.aload_n 0, 1)) rfl
theorem zf_zm_1_59 (env : List (Nat × Nat)) : zI9 1 zY_1 zm_1 env (111, 1, 17, 3, 2) 114 := zi_getf (i := 20) (N := 25) (C := "TransportPairModel$Seals") (ref := "TransportPairModel$Seals") (T := zF_17) (by decide +kernel : decode zY_1.2.1 111 = .ok (.getfield 20, 3)) rfl zuw_17 (by decide) (zw_T zwd_0) rfl
theorem zf_zm_1_60 (env : List (Nat × Nat)) : zI9 1 zY_1 zm_1 env (114, 63, 5, 0, 0) 116 := zi_iload (by decide +kernel : decode zY_1.2.1 114 = .ok (.iload 5, 2))
theorem zf_zm_1_61 (env : List (Nat × Nat)) : zI9 1 zY_1 zm_1 env (116, 8, 0, 0, 0) 117 := zi_iald (zscr_ok (by decide +kernel : decode zY_1.2.1 116 = .ok (.iaload, 1))) (by decide +kernel : decode zY_1.2.1 116 = .ok (.iaload, 1))
theorem zf_zm_1_62 (env : List (Nat × Nat)) : zI9 1 zY_1 zm_1 env (117, 63, 6, 0, 0) 119 := zi_iload (by decide +kernel : decode zY_1.2.1 117 = .ok (.iload 6, 2))
theorem zf_zm_1_63 (env : List (Nat × Nat)) : zI9 1 zY_1 zm_1 env (119, 69, 74, 0, 0) 122 := zi_fork_eq (off := 21) (t := 140) (by decide +kernel : decode zY_1.2.1 119 = .ok (.if_icmp .eq 21, 3)) (by decide) (by decide +kernel)
theorem zf_zm_1_64 (env : List (Nat × Nat)) : zI9 1 zY_1 zm_1 env (122, 0, 0, 0, 0) 123 := zi_aload_n (by decide +kernel : decode zY_1.2.1 122 = .ok (.aload_n 0, 1)) rfl
theorem zf_zm_1_65 (env : List (Nat × Nat)) : zI9 1 zY_1 zm_1 env (123, 1, 17, 3, 2) 126 := zi_getf (i := 20) (N := 25) (C := "TransportPairModel$Seals") (ref := "TransportPairModel$Seals") (T := zF_17) (by decide +kernel : decode zY_1.2.1 123 = .ok (.getfield 20, 3)) rfl zuw_17 (by decide) (zw_T zwd_0) rfl
theorem zf_zm_1_66 (env : List (Nat × Nat)) : zI9 1 zY_1 zm_1 env (126, 63, 5, 0, 0) 128 := zi_iload (by decide +kernel : decode zY_1.2.1 126 = .ok (.iload 5, 2))
theorem zf_zm_1_67 (env : List (Nat × Nat)) : zI9 1 zY_1 zm_1 env (128, 8, 0, 0, 0) 129 := zi_iald (zscr_ok (by decide +kernel : decode zY_1.2.1 128 = .ok (.iaload, 1))) (by decide +kernel : decode zY_1.2.1 128 = .ok (.iaload, 1))
theorem zf_zm_1_68 (env : List (Nat × Nat)) : zI9 1 zY_1 zm_1 env (129, 63, 6, 0, 0) 131 := zi_iload (by decide +kernel : decode zY_1.2.1 129 = .ok (.iload 6, 2))
theorem zf_zm_1_69 (env : List (Nat × Nat)) : zI9 1 zY_1 zm_1 env (131, 69, 72, 0, 0) 134 := zi_fork_le (off := 7) (t := 138) (by decide +kernel : decode zY_1.2.1 131 = .ok (.if_icmp .le 7, 3)) (by decide) (by decide +kernel)
theorem zf_zm_1_70 (env : List (Nat × Nat)) : zI9 1 zY_1 zm_1 env (134, 2, 1, 0, 0) 135 := zi_iconst (by decide +kernel : decode zY_1.2.1 134 = .ok (.iconst 1, 1)) (by decide +kernel)
theorem zf_zm_1_71 (env : List (Nat × Nat)) : zI9 1 zY_1 zm_1 env (135, 7, 73, 0, 0) 138 := zi_goto (off := 4) (t := 139) (by decide +kernel : decode zY_1.2.1 135 = .ok (.goto 4, 3)) (by decide) (by decide +kernel)
theorem zf_zm_1_72 (env : List (Nat × Nat)) : zI9 1 zY_1 zm_1 env (138, 2, 0, 0, 0) 139 := zi_iconst (by decide +kernel : decode zY_1.2.1 138 = .ok (.iconst 0, 1)) (by decide +kernel)
theorem zf_zm_1_73 (env : List (Nat × Nat)) : zR9 1 env (139, 68, 0, 0, 0) := zi_bret (by decide +kernel : decode (zYf 1).2.1 139 = .ok (.ireturn, 1)) rfl
theorem zf_zm_1_74 (env : List (Nat × Nat)) : zI9 1 zY_1 zm_1 env (140, 35, 5, 4294967295, 0) 143 := zi_iinc (by decide +kernel : decode zY_1.2.1 140 = .ok (.iinc 5 (-1), 3)) (by decide +kernel) (by decide)
theorem zf_zm_1_75 (env : List (Nat × Nat)) : zI9 1 zY_1 zm_1 env (143, 7, 47, 0, 0) 146 := zi_goto (off := (-54)) (t := 89) (by decide +kernel : decode zY_1.2.1 143 = .ok (.goto (-54), 3)) (by decide) (by decide +kernel)
theorem zf_zm_1_76 (env : List (Nat × Nat)) : zI9 1 zY_1 zm_1 env (146, 2, 0, 0, 0) 147 := zi_iconst (by decide +kernel : decode zY_1.2.1 146 = .ok (.iconst 0, 1)) (by decide +kernel)
theorem zf_zm_1_77 (env : List (Nat × Nat)) : zR9 1 env (147, 68, 0, 0, 0) := zi_bret (by decide +kernel : decode (zYf 1).2.1 147 = .ok (.ireturn, 1)) rfl
set_option maxRecDepth 100000 in
theorem zc_zm_1 (env : List (Nat × Nat)) : zcode zX (z_QF zEX zcl zft) (z_zm zEX zX zWL zcl zft zYf) zYf zW zET zcl zft (zGv env) 1 zm_1 zm_1.1 := ⟨Or.inl ⟨1, zf_zm_1_0 env, zpc_c⟩,
  Or.inl ⟨3, zf_zm_1_1 env, zpc_c⟩,
  Or.inl ⟨5, zf_zm_1_2 env, zpc_c⟩,
  Or.inl ⟨7, zf_zm_1_3 env, zpc_c⟩,
  Or.inl ⟨10, zf_zm_1_4 env, zpc_c⟩,
  Or.inl ⟨11, zf_zm_1_5 env, zpc_c⟩,
  Or.inl ⟨14, zf_zm_1_6 env, zpc_c⟩,
  Or.inl ⟨16, zf_zm_1_7 env, zpc_c⟩,
  Or.inl ⟨17, zf_zm_1_8 env, zpc_c⟩,
  Or.inl ⟨18, zf_zm_1_9 env, zpc_c⟩,
  Or.inl ⟨21, zf_zm_1_10 env, zpc_c⟩,
  Or.inl ⟨24, zf_zm_1_11 env, zpc_c⟩,
  Or.inl ⟨25, zf_zm_1_12 env, zpc_c⟩,
  Or.inl ⟨28, zf_zm_1_13 env, zpc_c⟩,
  Or.inl ⟨29, zf_zm_1_14 env, zpc_c⟩,
  Or.inl ⟨30, zf_zm_1_15 env, zpc_c⟩,
  Or.inl ⟨31, zf_zm_1_16 env, zpc_c⟩,
  Or.inl ⟨32, zf_zm_1_17 env, zpc_c⟩,
  Or.inl ⟨34, zf_zm_1_18 env, zpc_c⟩,
  Or.inl ⟨36, zf_zm_1_19 env, zpc_c⟩,
  Or.inl ⟨37, zf_zm_1_20 env, zpc_c⟩,
  Or.inl ⟨40, zf_zm_1_21 env, zpc_c⟩,
  Or.inl ⟨41, zf_zm_1_22 env, zpc_c⟩,
  Or.inl ⟨44, zf_zm_1_23 env, zpc_c⟩,
  Or.inl ⟨46, zf_zm_1_24 env, zpc_c⟩,
  Or.inl ⟨47, zf_zm_1_25 env, zpc_c⟩,
  Or.inl ⟨49, zf_zm_1_26 env, zpc_c⟩,
  Or.inl ⟨51, zf_zm_1_27 env, zpc_c⟩,
  Or.inl ⟨52, zf_zm_1_28 env, zpc_c⟩,
  Or.inl ⟨53, zf_zm_1_29 env, zpc_c⟩,
  Or.inl ⟨56, zf_zm_1_30 env, zpc_c⟩,
  Or.inl ⟨57, zf_zm_1_31 env, zpc_c⟩,
  Or.inl ⟨58, zf_zm_1_32 env, zpc_c⟩,
  Or.inl ⟨59, zf_zm_1_33 env, zpc_c⟩,
  Or.inl ⟨62, zf_zm_1_34 env, zpc_c⟩,
  Or.inl ⟨65, zf_zm_1_35 env, zpc_c⟩,
  Or.inl ⟨66, zf_zm_1_36 env, zpc_c⟩,
  Or.inl ⟨68, zf_zm_1_37 env, zpc_c⟩,
  Or.inl ⟨70, zf_zm_1_38 env, zpc_c⟩,
  Or.inl ⟨72, zf_zm_1_39 env, zpc_c⟩,
  Or.inl ⟨75, zf_zm_1_40 env, zpc_c⟩,
  Or.inl ⟨76, zf_zm_1_41 env, zpc_c⟩,
  Or.inr (Or.inr (Or.inl ⟨zf_zm_1_42 env, zpc_c⟩)),
  Or.inl ⟨82, zf_zm_1_43 env, zpc_c⟩,
  Or.inl ⟨85, zf_zm_1_44 env, zpc_c⟩,
  Or.inl ⟨87, zf_zm_1_45 env, zpc_c⟩,
  Or.inl ⟨89, zf_zm_1_46 env, zpc_c⟩,
  Or.inl ⟨91, zf_zm_1_47 env, zpc_c⟩,
  Or.inl ⟨94, zf_zm_1_48 env, zpc_c⟩,
  Or.inl ⟨96, zf_zm_1_49 env, zpc_c⟩,
  Or.inl ⟨97, zf_zm_1_50 env, zpc_c⟩,
  Or.inl ⟨99, zf_zm_1_51 env, zpc_c⟩,
  Or.inl ⟨100, zf_zm_1_52 env, zpc_c⟩,
  Or.inl ⟨103, zf_zm_1_53 env, zpc_c⟩,
  Or.inl ⟨104, zf_zm_1_54 env, zpc_c⟩,
  Or.inl ⟨107, zf_zm_1_55 env, zpc_c⟩,
  Or.inl ⟨108, zf_zm_1_56 env, zpc_c⟩,
  Or.inl ⟨110, zf_zm_1_57 env, zpc_c⟩,
  Or.inl ⟨111, zf_zm_1_58 env, zpc_c⟩,
  Or.inl ⟨114, zf_zm_1_59 env, zpc_c⟩,
  Or.inl ⟨116, zf_zm_1_60 env, zpc_c⟩,
  Or.inl ⟨117, zf_zm_1_61 env, zpc_c⟩,
  Or.inl ⟨119, zf_zm_1_62 env, zpc_c⟩,
  Or.inl ⟨122, zf_zm_1_63 env, zpc_c⟩,
  Or.inl ⟨123, zf_zm_1_64 env, zpc_c⟩,
  Or.inl ⟨126, zf_zm_1_65 env, zpc_c⟩,
  Or.inl ⟨128, zf_zm_1_66 env, zpc_c⟩,
  Or.inl ⟨129, zf_zm_1_67 env, zpc_c⟩,
  Or.inl ⟨131, zf_zm_1_68 env, zpc_c⟩,
  Or.inl ⟨134, zf_zm_1_69 env, zpc_c⟩,
  Or.inl ⟨135, zf_zm_1_70 env, zpc_c⟩,
  Or.inl ⟨138, zf_zm_1_71 env, zpc_c⟩,
  Or.inl ⟨139, zf_zm_1_72 env, zpc_c⟩,
  Or.inr (Or.inl (zf_zm_1_73 env)),
  Or.inl ⟨143, zf_zm_1_74 env, zpc_c⟩,
  Or.inl ⟨146, zf_zm_1_75 env, zpc_c⟩,
  Or.inl ⟨147, zf_zm_1_76 env, zpc_c⟩,
  Or.inr (Or.inl (zf_zm_1_77 env)), trivial⟩
