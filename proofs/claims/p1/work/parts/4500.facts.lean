/-! FACTS (by program) -/
theorem zf_zm_7_0 (env : List (Nat × Nat)) : zI9 7 zY_7 zm_7 env (0, 0, 0, 0, 0) 1 := zi_aload_n (by decide +kernel : decode zY_7.2.1 0 = .ok (.aload_n 0, 1)) rfl
theorem zf_zm_7_1 (env : List (Nat × Nat)) : zI9 7 zY_7 zm_7 env (1, 60, 0, 0, 0) 4 := zi_obj (i := 1) (by decide +kernel : decode zY_7.2.1 1 = .ok (.invokespecial 1, 3)) (zw_T zwd_92) (zw_T zwd_11) (zw_T zwd_12)
theorem zf_zm_7_2 (env : List (Nat × Nat)) : zI9 7 zY_7 zm_7 env (4, 17, 8, 0, 15) 7 := zi_new (i := 7) (N := 15) (C := "TransportPair$Seals") (T := zF_8) (ds := [2, 2, 2, 2, 2, 2, 2, 2, 2, 2, 2, 2, 2, 2, 2]) (by decide +kernel : decode zY_7.2.1 4 = .ok (.new 7, 3)) rfl zuw_8 zFt_8 (zw_T zwd_93) (zw_T zwd_94) (zw_T zwd_95) rfl rfl rfl zFd_8
theorem zf_zm_7_3 (env : List (Nat × Nat)) : zI9 7 zY_7 zm_7 env (7, 13, 0, 0, 0) 8 := zi_dup (by decide +kernel : decode zY_7.2.1 7 = .ok (.dup, 1))
theorem zf_zm_7_4 (env : List (Nat × Nat)) : zC9 7 zm_7 env (8, 66, 88, 65, 1) := zi_call (by decide +kernel) (zr_IN (i := 9) (n := 0) zX_ok rfl (zgood_88) (by decide +kernel) (zw_T zwd_95) (zw_N zwd_96) rfl (zw_T zwd_97) rfl ⟨by decide +kernel, by decide +kernel, by decide +kernel⟩ rfl (by decide +kernel : decode (zYf 7).2.1 8 = .ok (.invokespecial 9, 3)))
theorem zf_zm_7_5 (env : List (Nat × Nat)) : zI9 7 zY_7 zm_7 env (11, 65, 1, 0, 0) 12 := zi_astore_n (by decide +kernel : decode zY_7.2.1 11 = .ok (.astore_n 1, 1)) rfl (by decide)
theorem zf_zm_7_6 (env : List (Nat × Nat)) : zI9 7 zY_7 zm_7 env (12, 17, 6, 0, 21) 15 := zi_new (i := 10) (N := 21) (C := "TransportPair$Reader") (T := zF_6) (ds := [2, 0, 0, 0, 0, 0, 1, 1, 1, 0, 0, 2, 2, 0, 0, 0, 0, 0, 0, 0, 0]) (by decide +kernel : decode zY_7.2.1 12 = .ok (.new 10, 3)) rfl zuw_6 zFt_6 (zw_T zwd_98) (zw_T zwd_99) (zw_T zwd_100) rfl rfl rfl zFd_6
theorem zf_zm_7_7 (env : List (Nat × Nat)) : zI9 7 zY_7 zm_7 env (15, 13, 0, 0, 0) 16 := zi_dup (by decide +kernel : decode zY_7.2.1 15 = .ok (.dup, 1))
theorem zf_zm_7_8 (env : List (Nat × Nat)) : zC9 7 zm_7 env (16, 66, 86, 65, 1) := zi_call (by decide +kernel) (zr_IN (i := 12) (n := 0) zX_ok rfl (zgood_86) (by decide +kernel) (zw_T zwd_100) (zw_N zwd_101) rfl (zw_T zwd_102) rfl ⟨by decide +kernel, by decide +kernel, by decide +kernel⟩ rfl (by decide +kernel : decode (zYf 7).2.1 16 = .ok (.invokespecial 12, 3)))
theorem zf_zm_7_9 (env : List (Nat × Nat)) : zI9 7 zY_7 zm_7 env (19, 65, 2, 0, 0) 20 := zi_astore_n (by decide +kernel : decode zY_7.2.1 19 = .ok (.astore_n 2, 1)) rfl (by decide)
theorem zf_zm_7_10 (env : List (Nat × Nat)) : zI9 7 zY_7 zm_7 env (20, 0, 0, 0, 0) 21 := zi_aload_n (by decide +kernel : decode zY_7.2.1 20 = .ok (.aload_n 0, 1)) rfl
theorem zf_zm_7_11 (env : List (Nat × Nat)) : zI9 7 zY_7 zm_7 env (21, 2, 2, 0, 0) 22 := zi_iconst (by decide +kernel : decode zY_7.2.1 21 = .ok (.iconst 2, 1)) (by decide +kernel)
theorem zf_zm_7_12 (env : List (Nat × Nat)) : zI9 7 zY_7 zm_7 env (22, 38, 0, 4, 0) 25 := zi_newA (i := 13) (C := "TransportPair$Line") (by decide +kernel : decode zY_7.2.1 22 = .ok (.anewarray 13, 3)) (zw_T zwd_103) (zw_N zwd_104) (fun _ _ _ h => h) rfl
theorem zf_zm_7_13 (env : List (Nat × Nat)) : zI9 7 zY_7 zm_7 env (25, 13, 0, 0, 0) 26 := zi_dup (by decide +kernel : decode zY_7.2.1 25 = .ok (.dup, 1))
theorem zf_zm_7_14 (env : List (Nat × Nat)) : zI9 7 zY_7 zm_7 env (26, 2, 0, 0, 0) 27 := zi_iconst (by decide +kernel : decode zY_7.2.1 26 = .ok (.iconst 0, 1)) (by decide +kernel)
theorem zf_zm_7_15 (env : List (Nat × Nat)) : zI9 7 zY_7 zm_7 env (27, 17, 4, 0, 7) 30 := zi_new (i := 13) (N := 7) (C := "TransportPair$Line") (T := zF_4) (ds := [2, 2, 2, 2, 0, 0, 0]) (by decide +kernel : decode zY_7.2.1 27 = .ok (.new 13, 3)) rfl zuw_4 zFt_4 (zw_T zwd_103) (zw_T zwd_105) (zw_T zwd_106) rfl rfl rfl zFd_4
theorem zf_zm_7_16 (env : List (Nat × Nat)) : zI9 7 zY_7 zm_7 env (30, 13, 0, 0, 0) 31 := zi_dup (by decide +kernel : decode zY_7.2.1 30 = .ok (.dup, 1))
theorem zf_zm_7_17 (env : List (Nat × Nat)) : zC9 7 zm_7 env (31, 66, 84, 66, 1) := zi_call (by decide +kernel) (zr_I (i := 15) (n := 0) zX_ok rfl (zgood_84) (by decide +kernel) (zw_T zwd_106) (zw_T zwd_107) rfl (zw_T zwd_108) rfl ⟨by decide +kernel, by decide +kernel, by decide +kernel⟩ rfl (by decide +kernel : decode (zYf 7).2.1 31 = .ok (.invokespecial 15, 3)))
theorem zf_zm_7_18 (env : List (Nat × Nat)) : zI9 7 zY_7 zm_7 env (34, 33, 0, 0, 0) 35 := zi_aast zft_all (by decide +kernel : decode zY_7.2.1 34 = .ok (.aastore, 1))
theorem zf_zm_7_19 (env : List (Nat × Nat)) : zI9 7 zY_7 zm_7 env (35, 13, 0, 0, 0) 36 := zi_dup (by decide +kernel : decode zY_7.2.1 35 = .ok (.dup, 1))
theorem zf_zm_7_20 (env : List (Nat × Nat)) : zI9 7 zY_7 zm_7 env (36, 2, 1, 0, 0) 37 := zi_iconst (by decide +kernel : decode zY_7.2.1 36 = .ok (.iconst 1, 1)) (by decide +kernel)
theorem zf_zm_7_21 (env : List (Nat × Nat)) : zI9 7 zY_7 zm_7 env (37, 17, 4, 0, 7) 40 := zi_new (i := 13) (N := 7) (C := "TransportPair$Line") (T := zF_4) (ds := [2, 2, 2, 2, 0, 0, 0]) (by decide +kernel : decode zY_7.2.1 37 = .ok (.new 13, 3)) rfl zuw_4 zFt_4 (zw_T zwd_103) (zw_T zwd_105) (zw_T zwd_106) rfl rfl rfl zFd_4
theorem zf_zm_7_22 (env : List (Nat × Nat)) : zI9 7 zY_7 zm_7 env (40, 13, 0, 0, 0) 41 := zi_dup (by decide +kernel : decode zY_7.2.1 40 = .ok (.dup, 1))
theorem zf_zm_7_23 (env : List (Nat × Nat)) : zC9 7 zm_7 env (41, 66, 84, 66, 1) := zi_call (by decide +kernel) (zr_I (i := 15) (n := 0) zX_ok rfl (zgood_84) (by decide +kernel) (zw_T zwd_106) (zw_T zwd_107) rfl (zw_T zwd_108) rfl ⟨by decide +kernel, by decide +kernel, by decide +kernel⟩ rfl (by decide +kernel : decode (zYf 7).2.1 41 = .ok (.invokespecial 15, 3)))
theorem zf_zm_7_24 (env : List (Nat × Nat)) : zI9 7 zY_7 zm_7 env (44, 33, 0, 0, 0) 45 := zi_aast zft_all (by decide +kernel : decode zY_7.2.1 44 = .ok (.aastore, 1))
theorem zf_zm_7_25 (env : List (Nat × Nat)) : zI9 7 zY_7 zm_7 env (45, 4, 0, 0, 2) 48 := zi_putfF (i := 16) (N := 8) (C := "TransportPair") (ref := "TransportPair") (T := zF_0) (by decide +kernel : decode zY_7.2.1 45 = .ok (.putfield 16, 3)) rfl zuw_0 zFt_0 zFn_0 (by decide) (zw_T zwd_109) rfl rfl rfl rfl (ty := .array (.object "TransportPair$Line")) (by decide +kernel) (Or.inr ⟨_, rfl⟩)
theorem zf_zm_7_26 (env : List (Nat × Nat)) : zI9 7 zY_7 zm_7 env (48, 0, 0, 0, 0) 49 := zi_aload_n (by decide +kernel : decode zY_7.2.1 48 = .ok (.aload_n 0, 1)) rfl
theorem zf_zm_7_27 (env : List (Nat × Nat)) : zI9 7 zY_7 zm_7 env (49, 2, 2, 0, 0) 50 := zi_iconst (by decide +kernel : decode zY_7.2.1 49 = .ok (.iconst 2, 1)) (by decide +kernel)
theorem zf_zm_7_28 (env : List (Nat × Nat)) : zI9 7 zY_7 zm_7 env (50, 38, 0, 5, 0) 53 := zi_newA (i := 22) (C := "TransportPair$Side") (by decide +kernel : decode zY_7.2.1 50 = .ok (.anewarray 22, 3)) (zw_T zwd_110) (zw_N zwd_111) (fun _ _ _ h => h) rfl
theorem zf_zm_7_29 (env : List (Nat × Nat)) : zI9 7 zY_7 zm_7 env (53, 13, 0, 0, 0) 54 := zi_dup (by decide +kernel : decode zY_7.2.1 53 = .ok (.dup, 1))
theorem zf_zm_7_30 (env : List (Nat × Nat)) : zI9 7 zY_7 zm_7 env (54, 2, 0, 0, 0) 55 := zi_iconst (by decide +kernel : decode zY_7.2.1 54 = .ok (.iconst 0, 1)) (by decide +kernel)
theorem zf_zm_7_31 (env : List (Nat × Nat)) : zI9 7 zY_7 zm_7 env (55, 17, 10, 0, 22) 58 := zi_new (i := 22) (N := 22) (C := "TransportPair$Side") (T := zF_10) (ds := [0, 2, 2, 2, 2, 2, 2, 2, 2, 2, 0, 0, 0, 0, 0, 0, 0, 0, 2, 0, 0, 0]) (by decide +kernel : decode zY_7.2.1 55 = .ok (.new 22, 3)) rfl zuw_10 zFt_10 (zw_T zwd_110) (zw_T zwd_112) (zw_T zwd_113) rfl rfl rfl zFd_10
theorem zf_zm_7_32 (env : List (Nat × Nat)) : zI9 7 zY_7 zm_7 env (58, 13, 0, 0, 0) 59 := zi_dup (by decide +kernel : decode zY_7.2.1 58 = .ok (.dup, 1))
theorem zf_zm_7_33 (env : List (Nat × Nat)) : zI9 7 zY_7 zm_7 env (59, 2, 0, 0, 0) 60 := zi_iconst (by decide +kernel : decode zY_7.2.1 59 = .ok (.iconst 0, 1)) (by decide +kernel)
theorem zf_zm_7_34 (env : List (Nat × Nat)) : zI9 7 zY_7 zm_7 env (60, 0, 1, 0, 0) 61 := zi_aload_n (by decide +kernel : decode zY_7.2.1 60 = .ok (.aload_n 1, 1)) rfl
theorem zf_zm_7_35 (env : List (Nat × Nat)) : zI9 7 zY_7 zm_7 env (61, 0, 2, 0, 0) 62 := zi_aload_n (by decide +kernel : decode zY_7.2.1 61 = .ok (.aload_n 2, 1)) rfl
theorem zf_zm_7_36 (env : List (Nat × Nat)) : zC9 7 zm_7 env (62, 66, 91, 264, 1) := zi_call (by decide +kernel) (zr_I (i := 24) (n := 3) zX_ok rfl (zgood_91) (by decide +kernel) (zw_T zwd_113) (zw_T zwd_114) rfl (zw_T zwd_115) rfl ⟨by decide +kernel, by decide +kernel, by decide +kernel⟩ rfl (by decide +kernel : decode (zYf 7).2.1 62 = .ok (.invokespecial 24, 3)))
theorem zf_zm_7_37 (env : List (Nat × Nat)) : zI9 7 zY_7 zm_7 env (65, 33, 0, 0, 0) 66 := zi_aast zft_all (by decide +kernel : decode zY_7.2.1 65 = .ok (.aastore, 1))
theorem zf_zm_7_38 (env : List (Nat × Nat)) : zI9 7 zY_7 zm_7 env (66, 13, 0, 0, 0) 67 := zi_dup (by decide +kernel : decode zY_7.2.1 66 = .ok (.dup, 1))
theorem zf_zm_7_39 (env : List (Nat × Nat)) : zI9 7 zY_7 zm_7 env (67, 2, 1, 0, 0) 68 := zi_iconst (by decide +kernel : decode zY_7.2.1 67 = .ok (.iconst 1, 1)) (by decide +kernel)
theorem zf_zm_7_40 (env : List (Nat × Nat)) : zI9 7 zY_7 zm_7 env (68, 17, 10, 0, 22) 71 := zi_new (i := 22) (N := 22) (C := "TransportPair$Side") (T := zF_10) (ds := [0, 2, 2, 2, 2, 2, 2, 2, 2, 2, 0, 0, 0, 0, 0, 0, 0, 0, 2, 0, 0, 0]) (by decide +kernel : decode zY_7.2.1 68 = .ok (.new 22, 3)) rfl zuw_10 zFt_10 (zw_T zwd_110) (zw_T zwd_112) (zw_T zwd_113) rfl rfl rfl zFd_10
theorem zf_zm_7_41 (env : List (Nat × Nat)) : zI9 7 zY_7 zm_7 env (71, 13, 0, 0, 0) 72 := zi_dup (by decide +kernel : decode zY_7.2.1 71 = .ok (.dup, 1))
theorem zf_zm_7_42 (env : List (Nat × Nat)) : zI9 7 zY_7 zm_7 env (72, 2, 1, 0, 0) 73 := zi_iconst (by decide +kernel : decode zY_7.2.1 72 = .ok (.iconst 1, 1)) (by decide +kernel)
theorem zf_zm_7_43 (env : List (Nat × Nat)) : zI9 7 zY_7 zm_7 env (73, 0, 1, 0, 0) 74 := zi_aload_n (by decide +kernel : decode zY_7.2.1 73 = .ok (.aload_n 1, 1)) rfl
theorem zf_zm_7_44 (env : List (Nat × Nat)) : zI9 7 zY_7 zm_7 env (74, 0, 2, 0, 0) 75 := zi_aload_n (by decide +kernel : decode zY_7.2.1 74 = .ok (.aload_n 2, 1)) rfl
theorem zf_zm_7_45 (env : List (Nat × Nat)) : zC9 7 zm_7 env (75, 66, 91, 264, 1) := zi_call (by decide +kernel) (zr_I (i := 24) (n := 3) zX_ok rfl (zgood_91) (by decide +kernel) (zw_T zwd_113) (zw_T zwd_114) rfl (zw_T zwd_115) rfl ⟨by decide +kernel, by decide +kernel, by decide +kernel⟩ rfl (by decide +kernel : decode (zYf 7).2.1 75 = .ok (.invokespecial 24, 3)))
theorem zf_zm_7_46 (env : List (Nat × Nat)) : zI9 7 zY_7 zm_7 env (78, 33, 0, 0, 0) 79 := zi_aast zft_all (by decide +kernel : decode zY_7.2.1 78 = .ok (.aastore, 1))
theorem zf_zm_7_47 (env : List (Nat × Nat)) : zI9 7 zY_7 zm_7 env (79, 4, 0, 1, 2) 82 := zi_putfF (i := 27) (N := 8) (C := "TransportPair") (ref := "TransportPair") (T := zF_0) (by decide +kernel : decode zY_7.2.1 79 = .ok (.putfield 27, 3)) rfl zuw_0 zFt_0 zFn_0 (by decide) (zw_T zwd_116) rfl rfl rfl rfl (ty := .array (.object "TransportPair$Side")) (by decide +kernel) (Or.inr ⟨_, rfl⟩)
theorem zf_zm_7_48 (env : List (Nat × Nat)) : zI9 7 zY_7 zm_7 env (82, 0, 0, 0, 0) 83 := zi_aload_n (by decide +kernel : decode zY_7.2.1 82 = .ok (.aload_n 0, 1)) rfl
theorem zf_zm_7_49 (env : List (Nat × Nat)) : zI9 7 zY_7 zm_7 env (83, 2, 64, 0, 0) 85 := zi_bipush (by decide +kernel : decode zY_7.2.1 83 = .ok (.bipush 64, 2)) (by decide +kernel)
theorem zf_zm_7_50 (env : List (Nat × Nat)) : zI9 7 zY_7 zm_7 env (85, 12, 0, 1, 0) 87 := zi_newI (by decide +kernel : decode zY_7.2.1 85 = .ok (.newarray .byte, 2)) (zw_T zwd_79) rfl rfl (by decide) rfl
theorem zf_zm_7_51 (env : List (Nat × Nat)) : zI9 7 zY_7 zm_7 env (87, 4, 0, 2, 2) 90 := zi_putf (i := 31) (N := 8) (C := "TransportPair") (ref := "TransportPair") (T := zF_0) (by decide +kernel : decode zY_7.2.1 87 = .ok (.putfield 31, 3)) rfl zuw_0 zFt_0 zFn_0 (by decide) (zw_T zwd_117) rfl rfl (ty := .array .byte) (by decide +kernel) (Or.inr ⟨_, rfl⟩)
theorem zf_zm_7_52 (env : List (Nat × Nat)) : zI9 7 zY_7 zm_7 env (90, 0, 0, 0, 0) 91 := zi_aload_n (by decide +kernel : decode zY_7.2.1 90 = .ok (.aload_n 0, 1)) rfl
theorem zf_zm_7_53 (env : List (Nat × Nat)) : zI9 7 zY_7 zm_7 env (91, 2, 2048, 0, 0) 94 := zi_sipush (by decide +kernel : decode zY_7.2.1 91 = .ok (.sipush 2048, 3)) (by decide +kernel)
theorem zf_zm_7_54 (env : List (Nat × Nat)) : zI9 7 zY_7 zm_7 env (94, 12, 0, 1, 0) 96 := zi_newI (by decide +kernel : decode zY_7.2.1 94 = .ok (.newarray .byte, 2)) (zw_T zwd_79) rfl rfl (by decide) rfl
theorem zf_zm_7_55 (env : List (Nat × Nat)) : zI9 7 zY_7 zm_7 env (96, 4, 0, 4, 2) 99 := zi_putfF (i := 35) (N := 8) (C := "TransportPair") (ref := "TransportPair") (T := zF_0) (by decide +kernel : decode zY_7.2.1 96 = .ok (.putfield 35, 3)) rfl zuw_0 zFt_0 zFn_0 (by decide) (zw_T zwd_118) rfl rfl rfl rfl (ty := .array .byte) (by decide +kernel) (Or.inr ⟨_, rfl⟩)
theorem zf_zm_7_56 (env : List (Nat × Nat)) : zR9 7 env (99, 21, 0, 0, 0) := zi_vret (by decide +kernel : decode (zYf 7).2.1 99 = .ok (.return_, 1)) rfl
set_option maxRecDepth 100000 in
theorem zc_zm_7 (env : List (Nat × Nat)) : zcode zX (z_QF zEX zcl zft) (z_zm zEX zX zWL zcl zft zYf) zYf zW zET zcl zft (zGv env) 7 zm_7 zm_7.1 := ⟨Or.inl ⟨1, zf_zm_7_0 env, zpc_c⟩,
  Or.inl ⟨4, zf_zm_7_1 env, zpc_c⟩,
  Or.inl ⟨7, zf_zm_7_2 env, zpc_c⟩,
  Or.inl ⟨8, zf_zm_7_3 env, zpc_c⟩,
  Or.inr (Or.inr (Or.inl ⟨zf_zm_7_4 env, zpc_c⟩)),
  Or.inl ⟨12, zf_zm_7_5 env, zpc_c⟩,
  Or.inl ⟨15, zf_zm_7_6 env, zpc_c⟩,
  Or.inl ⟨16, zf_zm_7_7 env, zpc_c⟩,
  Or.inr (Or.inr (Or.inl ⟨zf_zm_7_8 env, zpc_c⟩)),
  Or.inl ⟨20, zf_zm_7_9 env, zpc_c⟩,
  Or.inl ⟨21, zf_zm_7_10 env, zpc_c⟩,
  Or.inl ⟨22, zf_zm_7_11 env, zpc_c⟩,
  Or.inl ⟨25, zf_zm_7_12 env, zpc_c⟩,
  Or.inl ⟨26, zf_zm_7_13 env, zpc_c⟩,
  Or.inl ⟨27, zf_zm_7_14 env, zpc_c⟩,
  Or.inl ⟨30, zf_zm_7_15 env, zpc_c⟩,
  Or.inl ⟨31, zf_zm_7_16 env, zpc_c⟩,
  Or.inr (Or.inr (Or.inl ⟨zf_zm_7_17 env, zpc_c⟩)),
  Or.inl ⟨35, zf_zm_7_18 env, zpc_c⟩,
  Or.inl ⟨36, zf_zm_7_19 env, zpc_c⟩,
  Or.inl ⟨37, zf_zm_7_20 env, zpc_c⟩,
  Or.inl ⟨40, zf_zm_7_21 env, zpc_c⟩,
  Or.inl ⟨41, zf_zm_7_22 env, zpc_c⟩,
  Or.inr (Or.inr (Or.inl ⟨zf_zm_7_23 env, zpc_c⟩)),
  Or.inl ⟨45, zf_zm_7_24 env, zpc_c⟩,
  Or.inl ⟨48, zf_zm_7_25 env, zpc_c⟩,
  Or.inl ⟨49, zf_zm_7_26 env, zpc_c⟩,
  Or.inl ⟨50, zf_zm_7_27 env, zpc_c⟩,
  Or.inl ⟨53, zf_zm_7_28 env, zpc_c⟩,
  Or.inl ⟨54, zf_zm_7_29 env, zpc_c⟩,
  Or.inl ⟨55, zf_zm_7_30 env, zpc_c⟩,
  Or.inl ⟨58, zf_zm_7_31 env, zpc_c⟩,
  Or.inl ⟨59, zf_zm_7_32 env, zpc_c⟩,
  Or.inl ⟨60, zf_zm_7_33 env, zpc_c⟩,
  Or.inl ⟨61, zf_zm_7_34 env, zpc_c⟩,
  Or.inl ⟨62, zf_zm_7_35 env, zpc_c⟩,
  Or.inr (Or.inr (Or.inl ⟨zf_zm_7_36 env, zpc_c⟩)),
  Or.inl ⟨66, zf_zm_7_37 env, zpc_c⟩,
  Or.inl ⟨67, zf_zm_7_38 env, zpc_c⟩,
  Or.inl ⟨68, zf_zm_7_39 env, zpc_c⟩,
  Or.inl ⟨71, zf_zm_7_40 env, zpc_c⟩,
  Or.inl ⟨72, zf_zm_7_41 env, zpc_c⟩,
  Or.inl ⟨73, zf_zm_7_42 env, zpc_c⟩,
  Or.inl ⟨74, zf_zm_7_43 env, zpc_c⟩,
  Or.inl ⟨75, zf_zm_7_44 env, zpc_c⟩,
  Or.inr (Or.inr (Or.inl ⟨zf_zm_7_45 env, zpc_c⟩)),
  Or.inl ⟨79, zf_zm_7_46 env, zpc_c⟩,
  Or.inl ⟨82, zf_zm_7_47 env, zpc_c⟩,
  Or.inl ⟨83, zf_zm_7_48 env, zpc_c⟩,
  Or.inl ⟨85, zf_zm_7_49 env, zpc_c⟩,
  Or.inl ⟨87, zf_zm_7_50 env, zpc_c⟩,
  Or.inl ⟨90, zf_zm_7_51 env, zpc_c⟩,
  Or.inl ⟨91, zf_zm_7_52 env, zpc_c⟩,
  Or.inl ⟨94, zf_zm_7_53 env, zpc_c⟩,
  Or.inl ⟨96, zf_zm_7_54 env, zpc_c⟩,
  Or.inl ⟨99, zf_zm_7_55 env, zpc_c⟩,
  Or.inr (Or.inl (zf_zm_7_56 env)), trivial⟩
theorem zf_zm_8_0 (env : List (Nat × Nat)) : zI9 8 zY_8 zm_8 env (0, 0, 0, 0, 0) 1 := zi_aload_n (by decide +kernel : decode zY_8.2.1 0 = .ok (.aload_n 0, 1)) rfl
theorem zf_zm_8_1 (env : List (Nat × Nat)) : zI9 8 zY_8 zm_8 env (1, 1, 0, 3, 0) 4 := zi_getf (i := 38) (N := 8) (C := "TransportPair") (ref := "TransportPair") (T := zF_0) (by decide +kernel : decode zY_8.2.1 1 = .ok (.getfield 38, 3)) rfl zuw_0 (by decide) (zw_T zwd_119) rfl
theorem zf_zm_8_2 (env : List (Nat × Nat)) : zI9 8 zY_8 zm_8 env (4, 2, 65516, 0, 0) 6 := zi_ldc (v := 65516) (by decide +kernel : decode zY_8.2.1 4 = .ok (.ldc 42, 2)) (by decide +kernel) (zw_T zwd_120)
theorem zf_zm_8_3 (env : List (Nat × Nat)) : zI9 8 zY_8 zm_8 env (6, 27, 5, 0, 0) 9 := zi_icmp_le (off := 11) (t := 17) (by decide +kernel : decode zY_8.2.1 6 = .ok (.if_icmp .le 11, 3)) (by decide) (by decide +kernel)
theorem zf_zm_8_4 (env : List (Nat × Nat)) : zI9 8 zY_8 zm_8 env (9, 99, 0, 0, 0) 17 := zi_none
theorem zf_zm_8_5 (env : List (Nat × Nat)) : zI9 8 zY_8 zm_8 env (17, 0, 0, 0, 0) 18 := zi_aload_n (by decide +kernel : decode zY_8.2.1 17 = .ok (.aload_n 0, 1)) rfl
theorem zf_zm_8_6 (env : List (Nat × Nat)) : zI9 8 zY_8 zm_8 env (18, 0, 0, 0, 0) 19 := zi_aload_n (by decide +kernel : decode zY_8.2.1 18 = .ok (.aload_n 0, 1)) rfl
theorem zf_zm_8_7 (env : List (Nat × Nat)) : zI9 8 zY_8 zm_8 env (19, 1, 0, 2, 2) 22 := zi_getf (i := 31) (N := 8) (C := "TransportPair") (ref := "TransportPair") (T := zF_0) (by decide +kernel : decode zY_8.2.1 19 = .ok (.getfield 31, 3)) rfl zuw_0 (by decide) (zw_T zwd_117) rfl
theorem zf_zm_8_8 (env : List (Nat × Nat)) : zI9 8 zY_8 zm_8 env (22, 0, 0, 0, 0) 23 := zi_aload_n (by decide +kernel : decode zY_8.2.1 22 = .ok (.aload_n 0, 1)) rfl
theorem zf_zm_8_9 (env : List (Nat × Nat)) : zI9 8 zY_8 zm_8 env (23, 1, 0, 3, 0) 26 := zi_getf (i := 38) (N := 8) (C := "TransportPair") (ref := "TransportPair") (T := zF_0) (by decide +kernel : decode zY_8.2.1 23 = .ok (.getfield 38, 3)) rfl zuw_0 (by decide) (zw_T zwd_119) rfl
theorem zf_zm_8_10 (env : List (Nat × Nat)) : zI9 8 zY_8 zm_8 env (26, 2, 20, 0, 0) 28 := zi_bipush (by decide +kernel : decode zY_8.2.1 26 = .ok (.bipush 20, 2)) (by decide +kernel)
theorem zf_zm_8_11 (env : List (Nat × Nat)) : zI9 8 zY_8 zm_8 env (28, 9, 0, 0, 0) 29 := zi_iadd (by decide +kernel : decode zY_8.2.1 28 = .ok (.iadd, 1))
theorem zf_zm_8_12 (env : List (Nat × Nat)) : zC9 8 zm_8 env (29, 66, 90, 132, 0) := zi_call (by decide +kernel) (zr_S (i := 46) zX_ok rfl (zgood_90) (by decide +kernel) (zw_T zwd_121) (zw_T zwd_122) (zw_T zwd_123) ⟨by decide +kernel, by decide +kernel, by decide +kernel⟩ (by decide +kernel : decode (zYf 8).2.1 29 = .ok (.invokestatic 46, 3)))
theorem zf_zm_8_13 (env : List (Nat × Nat)) : zI9 8 zY_8 zm_8 env (32, 4, 0, 2, 2) 35 := zi_putf (i := 31) (N := 8) (C := "TransportPair") (ref := "TransportPair") (T := zF_0) (by decide +kernel : decode zY_8.2.1 32 = .ok (.putfield 31, 3)) rfl zuw_0 zFt_0 zFn_0 (by decide) (zw_T zwd_117) rfl rfl (ty := .array .byte) (by decide +kernel) (Or.inr ⟨_, rfl⟩)
theorem zf_zm_8_14 (env : List (Nat × Nat)) : zI9 8 zY_8 zm_8 env (35, 0, 0, 0, 0) 36 := zi_aload_n (by decide +kernel : decode zY_8.2.1 35 = .ok (.aload_n 0, 1)) rfl
theorem zf_zm_8_15 (env : List (Nat × Nat)) : zI9 8 zY_8 zm_8 env (36, 63, 1, 0, 0) 37 := zi_iload_n (by decide +kernel : decode zY_8.2.1 36 = .ok (.iload_n 1, 1)) rfl
theorem zf_zm_8_16 (env : List (Nat × Nat)) : zC9 8 zm_8 env (37, 66, 35, 131, 2) := zi_call (by decide +kernel) (zr_V (i := 52) (n := 1) (q := ("TransportPair", zF_0, 8)) zX_ok rfl (zgood_35) (by decide +kernel) (zw_T zwd_124) (zw_T zwd_125) (zw_T zwd_126) rfl (zw_T (zt_sel (y := ⟨"TransportPair","feedWord","(I)V"⟩) (n := 8) 1 (by decide +kernel))) ⟨by decide +kernel, by decide +kernel, by decide +kernel⟩ rfl (by decide +kernel : decode (zYf 8).2.1 37 = .ok (.invokevirtual 52, 3)))
theorem zf_zm_8_17 (env : List (Nat × Nat)) : zI9 8 zY_8 zm_8 env (40, 0, 0, 0, 0) 41 := zi_aload_n (by decide +kernel : decode zY_8.2.1 40 = .ok (.aload_n 0, 1)) rfl
theorem zf_zm_8_18 (env : List (Nat × Nat)) : zI9 8 zY_8 zm_8 env (41, 63, 2, 0, 0) 42 := zi_iload_n (by decide +kernel : decode zY_8.2.1 41 = .ok (.iload_n 2, 1)) rfl
theorem zf_zm_8_19 (env : List (Nat × Nat)) : zC9 8 zm_8 env (42, 66, 35, 131, 2) := zi_call (by decide +kernel) (zr_V (i := 52) (n := 1) (q := ("TransportPair", zF_0, 8)) zX_ok rfl (zgood_35) (by decide +kernel) (zw_T zwd_124) (zw_T zwd_125) (zw_T zwd_126) rfl (zw_T (zt_sel (y := ⟨"TransportPair","feedWord","(I)V"⟩) (n := 8) 1 (by decide +kernel))) ⟨by decide +kernel, by decide +kernel, by decide +kernel⟩ rfl (by decide +kernel : decode (zYf 8).2.1 42 = .ok (.invokevirtual 52, 3)))
theorem zf_zm_8_20 (env : List (Nat × Nat)) : zI9 8 zY_8 zm_8 env (45, 0, 0, 0, 0) 46 := zi_aload_n (by decide +kernel : decode zY_8.2.1 45 = .ok (.aload_n 0, 1)) rfl
theorem zf_zm_8_21 (env : List (Nat × Nat)) : zI9 8 zY_8 zm_8 env (46, 63, 3, 0, 0) 47 := zi_iload_n (by decide +kernel : decode zY_8.2.1 46 = .ok (.iload_n 3, 1)) rfl
theorem zf_zm_8_22 (env : List (Nat × Nat)) : zC9 8 zm_8 env (47, 66, 35, 131, 2) := zi_call (by decide +kernel) (zr_V (i := 52) (n := 1) (q := ("TransportPair", zF_0, 8)) zX_ok rfl (zgood_35) (by decide +kernel) (zw_T zwd_124) (zw_T zwd_125) (zw_T zwd_126) rfl (zw_T (zt_sel (y := ⟨"TransportPair","feedWord","(I)V"⟩) (n := 8) 1 (by decide +kernel))) ⟨by decide +kernel, by decide +kernel, by decide +kernel⟩ rfl (by decide +kernel : decode (zYf 8).2.1 47 = .ok (.invokevirtual 52, 3)))
theorem zf_zm_8_23 (env : List (Nat × Nat)) : zI9 8 zY_8 zm_8 env (50, 0, 0, 0, 0) 51 := zi_aload_n (by decide +kernel : decode zY_8.2.1 50 = .ok (.aload_n 0, 1)) rfl
theorem zf_zm_8_24 (env : List (Nat × Nat)) : zI9 8 zY_8 zm_8 env (51, 63, 4, 0, 0) 53 := zi_iload (by decide +kernel : decode zY_8.2.1 51 = .ok (.iload 4, 2))
theorem zf_zm_8_25 (env : List (Nat × Nat)) : zC9 8 zm_8 env (53, 66, 35, 131, 2) := zi_call (by decide +kernel) (zr_V (i := 52) (n := 1) (q := ("TransportPair", zF_0, 8)) zX_ok rfl (zgood_35) (by decide +kernel) (zw_T zwd_124) (zw_T zwd_125) (zw_T zwd_126) rfl (zw_T (zt_sel (y := ⟨"TransportPair","feedWord","(I)V"⟩) (n := 8) 1 (by decide +kernel))) ⟨by decide +kernel, by decide +kernel, by decide +kernel⟩ rfl (by decide +kernel : decode (zYf 8).2.1 53 = .ok (.invokevirtual 52, 3)))
theorem zf_zm_8_26 (env : List (Nat × Nat)) : zI9 8 zY_8 zm_8 env (56, 0, 0, 0, 0) 57 := zi_aload_n (by decide +kernel : decode zY_8.2.1 56 = .ok (.aload_n 0, 1)) rfl
theorem zf_zm_8_27 (env : List (Nat × Nat)) : zI9 8 zY_8 zm_8 env (57, 63, 5, 0, 0) 59 := zi_iload (by decide +kernel : decode zY_8.2.1 57 = .ok (.iload 5, 2))
theorem zf_zm_8_28 (env : List (Nat × Nat)) : zC9 8 zm_8 env (59, 66, 35, 131, 2) := zi_call (by decide +kernel) (zr_V (i := 52) (n := 1) (q := ("TransportPair", zF_0, 8)) zX_ok rfl (zgood_35) (by decide +kernel) (zw_T zwd_124) (zw_T zwd_125) (zw_T zwd_126) rfl (zw_T (zt_sel (y := ⟨"TransportPair","feedWord","(I)V"⟩) (n := 8) 1 (by decide +kernel))) ⟨by decide +kernel, by decide +kernel, by decide +kernel⟩ rfl (by decide +kernel : decode (zYf 8).2.1 59 = .ok (.invokevirtual 52, 3)))
theorem zf_zm_8_29 (env : List (Nat × Nat)) : zI9 8 zY_8 zm_8 env (62, 0, 0, 0, 0) 63 := zi_aload_n (by decide +kernel : decode zY_8.2.1 62 = .ok (.aload_n 0, 1)) rfl
theorem zf_zm_8_30 (env : List (Nat × Nat)) : zI9 8 zY_8 zm_8 env (63, 1, 0, 3, 0) 66 := zi_getf (i := 38) (N := 8) (C := "TransportPair") (ref := "TransportPair") (T := zF_0) (by decide +kernel : decode zY_8.2.1 63 = .ok (.getfield 38, 3)) rfl zuw_0 (by decide) (zw_T zwd_119) rfl
theorem zf_zm_8_31 (env : List (Nat × Nat)) : zR9 8 env (66, 11, 0, 0, 0) := zi_iret (by decide +kernel : decode (zYf 8).2.1 66 = .ok (.ireturn, 1)) rfl
set_option maxRecDepth 100000 in
theorem zc_zm_8 (env : List (Nat × Nat)) : zcode zX (z_QF zEX zcl zft) (z_zm zEX zX zWL zcl zft zYf) zYf zW zET zcl zft (zGv env) 8 zm_8 zm_8.1 := ⟨Or.inl ⟨1, zf_zm_8_0 env, zpc_c⟩,
  Or.inl ⟨4, zf_zm_8_1 env, zpc_c⟩,
  Or.inl ⟨6, zf_zm_8_2 env, zpc_c⟩,
  Or.inl ⟨9, zf_zm_8_3 env, zpc_c⟩,
  Or.inl ⟨17, zf_zm_8_4 env, zpc_c⟩,
  Or.inl ⟨18, zf_zm_8_5 env, zpc_c⟩,
  Or.inl ⟨19, zf_zm_8_6 env, zpc_c⟩,
  Or.inl ⟨22, zf_zm_8_7 env, zpc_c⟩,
  Or.inl ⟨23, zf_zm_8_8 env, zpc_c⟩,
  Or.inl ⟨26, zf_zm_8_9 env, zpc_c⟩,
  Or.inl ⟨28, zf_zm_8_10 env, zpc_c⟩,
  Or.inl ⟨29, zf_zm_8_11 env, zpc_c⟩,
  Or.inr (Or.inr (Or.inl ⟨zf_zm_8_12 env, zpc_c⟩)),
  Or.inl ⟨35, zf_zm_8_13 env, zpc_c⟩,
  Or.inl ⟨36, zf_zm_8_14 env, zpc_c⟩,
  Or.inl ⟨37, zf_zm_8_15 env, zpc_c⟩,
  Or.inr (Or.inr (Or.inl ⟨zf_zm_8_16 env, zpc_c⟩)),
  Or.inl ⟨41, zf_zm_8_17 env, zpc_c⟩,
  Or.inl ⟨42, zf_zm_8_18 env, zpc_c⟩,
  Or.inr (Or.inr (Or.inl ⟨zf_zm_8_19 env, zpc_c⟩)),
  Or.inl ⟨46, zf_zm_8_20 env, zpc_c⟩,
  Or.inl ⟨47, zf_zm_8_21 env, zpc_c⟩,
  Or.inr (Or.inr (Or.inl ⟨zf_zm_8_22 env, zpc_c⟩)),
  Or.inl ⟨51, zf_zm_8_23 env, zpc_c⟩,
  Or.inl ⟨53, zf_zm_8_24 env, zpc_c⟩,
  Or.inr (Or.inr (Or.inl ⟨zf_zm_8_25 env, zpc_c⟩)),
  Or.inl ⟨57, zf_zm_8_26 env, zpc_c⟩,
  Or.inl ⟨59, zf_zm_8_27 env, zpc_c⟩,
  Or.inr (Or.inr (Or.inl ⟨zf_zm_8_28 env, zpc_c⟩)),
  Or.inl ⟨63, zf_zm_8_29 env, zpc_c⟩,
  Or.inl ⟨66, zf_zm_8_30 env, zpc_c⟩,
  Or.inr (Or.inl (zf_zm_8_31 env)), trivial⟩
theorem zf_zm_9_0 (env : List (Nat × Nat)) : zI9 9 zY_9 zm_9 env (0, 63, 1, 0, 0) 1 := zi_iload_n (by decide +kernel : decode zY_9.2.1 0 = .ok (.iload_n 1, 1)) rfl
theorem zf_zm_9_1 (env : List (Nat × Nat)) : zI9 9 zY_9 zm_9 env (1, 22, 6, 0, 0) 4 := zi_if_lt (off := 11) (t := 12) (by decide +kernel : decode zY_9.2.1 1 = .ok (.ifCond .lt 11, 3)) (by decide) (by decide +kernel)
theorem zf_zm_9_2 (env : List (Nat × Nat)) : zI9 9 zY_9 zm_9 env (4, 63, 1, 0, 0) 5 := zi_iload_n (by decide +kernel : decode zY_9.2.1 4 = .ok (.iload_n 1, 1)) rfl
theorem zf_zm_9_3 (env : List (Nat × Nat)) : zI9 9 zY_9 zm_9 env (5, 0, 0, 0, 0) 6 := zi_aload_n (by decide +kernel : decode zY_9.2.1 5 = .ok (.aload_n 0, 1)) rfl
theorem zf_zm_9_4 (env : List (Nat × Nat)) : zI9 9 zY_9 zm_9 env (6, 1, 0, 3, 0) 9 := zi_getf (i := 38) (N := 8) (C := "TransportPair") (ref := "TransportPair") (T := zF_0) (by decide +kernel : decode zY_9.2.1 6 = .ok (.getfield 38, 3)) rfl zuw_0 (by decide) (zw_T zwd_119) rfl
theorem zf_zm_9_5 (env : List (Nat × Nat)) : zI9 9 zY_9 zm_9 env (9, 27, 7, 0, 0) 12 := zi_icmp_le (off := 11) (t := 20) (by decide +kernel : decode zY_9.2.1 9 = .ok (.if_icmp .le 11, 3)) (by decide) (by decide +kernel)
theorem zf_zm_9_6 (env : List (Nat × Nat)) : zR9 9 env (12, 39, 1, 0, 0) := zi_throw (names := znames) (ik := 56) (ic := 58) zUS_ok zfit_1 znf (zw_T zwd_127) (zw_T zwd_128) (zat_of zrest_1 zwd_129) (zgd_of zrest_1) rfl (by decide) (by decide) (by decide +kernel : decode (zYf 9).2.1 12 = .ok (.new 56, 3)) (by decide +kernel : decode (zYf 9).2.1 15 = .ok (.dup, 1)) (by decide +kernel : decode (zYf 9).2.1 16 = .ok (.invokespecial 58, 3)) (by decide +kernel : decode (zYf 9).2.1 19 = .ok (.athrow, 1))
theorem zf_zm_9_7 (env : List (Nat × Nat)) : zI9 9 zY_9 zm_9 env (20, 0, 0, 0, 0) 21 := zi_aload_n (by decide +kernel : decode zY_9.2.1 20 = .ok (.aload_n 0, 1)) rfl
theorem zf_zm_9_8 (env : List (Nat × Nat)) : zI9 9 zY_9 zm_9 env (21, 1, 0, 3, 0) 24 := zi_getf (i := 38) (N := 8) (C := "TransportPair") (ref := "TransportPair") (T := zF_0) (by decide +kernel : decode zY_9.2.1 21 = .ok (.getfield 38, 3)) rfl zuw_0 (by decide) (zw_T zwd_119) rfl
theorem zf_zm_9_9 (env : List (Nat × Nat)) : zI9 9 zY_9 zm_9 env (24, 10, 2, 0, 0) 25 := zi_istore_n (by decide +kernel : decode zY_9.2.1 24 = .ok (.istore_n 2, 1)) rfl (by decide)
theorem zf_zm_9_10 (env : List (Nat × Nat)) : zI9 9 zY_9 zm_9 env (25, 0, 0, 0, 0) 26 := zi_aload_n (by decide +kernel : decode zY_9.2.1 25 = .ok (.aload_n 0, 1)) rfl
theorem zf_zm_9_11 (env : List (Nat × Nat)) : zI9 9 zY_9 zm_9 env (26, 63, 1, 0, 0) 27 := zi_iload_n (by decide +kernel : decode zY_9.2.1 26 = .ok (.iload_n 1, 1)) rfl
theorem zf_zm_9_12 (env : List (Nat × Nat)) : zI9 9 zY_9 zm_9 env (27, 4, 0, 3, 0) 30 := zi_putf (i := 38) (N := 8) (C := "TransportPair") (ref := "TransportPair") (T := zF_0) (by decide +kernel : decode zY_9.2.1 27 = .ok (.putfield 38, 3)) rfl zuw_0 zFt_0 zFn_0 (by decide) (zw_T zwd_119) rfl rfl (ty := .int) (by decide +kernel) (rfl)
theorem zf_zm_9_13 (env : List (Nat × Nat)) : zI9 9 zY_9 zm_9 env (30, 63, 2, 0, 0) 31 := zi_iload_n (by decide +kernel : decode zY_9.2.1 30 = .ok (.iload_n 2, 1)) rfl
theorem zf_zm_9_14 (env : List (Nat × Nat)) : zR9 9 env (31, 11, 0, 0, 0) := zi_iret (by decide +kernel : decode (zYf 9).2.1 31 = .ok (.ireturn, 1)) rfl
set_option maxRecDepth 100000 in
theorem zc_zm_9 (env : List (Nat × Nat)) : zcode zX (z_QF zEX zcl zft) (z_zm zEX zX zWL zcl zft zYf) zYf zW zET zcl zft (zGv env) 9 zm_9 zm_9.1 := ⟨Or.inl ⟨1, zf_zm_9_0 env, zpc_c⟩,
  Or.inl ⟨4, zf_zm_9_1 env, zpc_c⟩,
  Or.inl ⟨5, zf_zm_9_2 env, zpc_c⟩,
  Or.inl ⟨6, zf_zm_9_3 env, zpc_c⟩,
  Or.inl ⟨9, zf_zm_9_4 env, zpc_c⟩,
  Or.inl ⟨12, zf_zm_9_5 env, zpc_c⟩,
  Or.inr (Or.inl (zf_zm_9_6 env)),
  Or.inl ⟨21, zf_zm_9_7 env, zpc_c⟩,
  Or.inl ⟨24, zf_zm_9_8 env, zpc_c⟩,
  Or.inl ⟨25, zf_zm_9_9 env, zpc_c⟩,
  Or.inl ⟨26, zf_zm_9_10 env, zpc_c⟩,
  Or.inl ⟨27, zf_zm_9_11 env, zpc_c⟩,
  Or.inl ⟨30, zf_zm_9_12 env, zpc_c⟩,
  Or.inl ⟨31, zf_zm_9_13 env, zpc_c⟩,
  Or.inr (Or.inl (zf_zm_9_14 env)), trivial⟩
theorem zf_zm_10_0 (env : List (Nat × Nat)) : zI9 10 zY_10 zm_10 env (0, 0, 0, 0, 0) 1 := zi_aload_n (by decide +kernel : decode zY_10.2.1 0 = .ok (.aload_n 0, 1)) rfl
theorem zf_zm_10_1 (env : List (Nat × Nat)) : zI9 10 zY_10 zm_10 env (1, 63, 1, 0, 0) 2 := zi_iload_n (by decide +kernel : decode zY_10.2.1 1 = .ok (.iload_n 1, 1)) rfl
theorem zf_zm_10_2 (env : List (Nat × Nat)) : zC9 10 zm_10 env (2, 3, 39, 130, 2) := zi_callT (by decide +kernel) (zr_V (i := 59) (n := 1) (q := ("TransportPair", zF_0, 8)) zX_ok rfl (zgood_39) (by decide +kernel) (zw_T zwd_124) (zw_T zwd_130) (zw_T zwd_131) rfl (zw_T (zt_sel (y := ⟨"TransportPair","checkSecret","(I)V"⟩) (n := 8) 2 (by decide +kernel))) ⟨by decide +kernel, by decide +kernel, by decide +kernel⟩ rfl (by decide +kernel : decode (zYf 10).2.1 2 = .ok (.invokevirtual 59, 3))) (zt_V (i := 59) (n := 1) (q := ("TransportPair", zF_0, 8)) zX_ok zeo_zm_10 zNC_ok rfl (zgood_39) (by decide +kernel) (zw_T zwd_124) (zw_T zwd_130) (zw_T zwd_131) rfl (zw_T (zt_sel (y := ⟨"TransportPair","checkSecret","(I)V"⟩) (n := 8) 2 (by decide +kernel))) ⟨by decide +kernel, by decide +kernel, by decide +kernel⟩ rfl (by decide +kernel : decode (zYf 10).2.1 2 = .ok (.invokevirtual 59, 3)))
theorem zf_zm_10_3 (env : List (Nat × Nat)) : zI9 10 zY_10 zm_10 env (5, 99, 0, 0, 0) 0 := zi_none
set_option maxRecDepth 100000 in
theorem zc_zm_10 (env : List (Nat × Nat)) : zcode zX (z_QF zEX zcl zft) (z_zm zEX zX zWL zcl zft zYf) zYf zW zET zcl zft (zGv env) 10 zm_10 zm_10.1 := ⟨Or.inl ⟨1, zf_zm_10_0 env, zpc_c⟩,
  Or.inl ⟨2, zf_zm_10_1 env, zpc_c⟩,
  Or.inr (Or.inr (Or.inl ⟨zf_zm_10_2 env, zpc_c⟩)),
  Or.inl ⟨0, zf_zm_10_3 env, zpc_n⟩, trivial⟩
theorem zf_zm_11_0 (env : List (Nat × Nat)) : zI9 11 zY_11 zm_11 env (0, 0, 0, 0, 0) 1 := zi_aload_n (by decide +kernel : decode zY_11.2.1 0 = .ok (.aload_n 0, 1)) rfl
theorem zf_zm_11_1 (env : List (Nat × Nat)) : zI9 11 zY_11 zm_11 env (1, 63, 1, 0, 0) 2 := zi_iload_n (by decide +kernel : decode zY_11.2.1 1 = .ok (.iload_n 1, 1)) rfl
theorem zf_zm_11_2 (env : List (Nat × Nat)) : zC9 11 zm_11 env (2, 3, 39, 130, 2) := zi_callT (by decide +kernel) (zr_V (i := 59) (n := 1) (q := ("TransportPair", zF_0, 8)) zX_ok rfl (zgood_39) (by decide +kernel) (zw_T zwd_124) (zw_T zwd_130) (zw_T zwd_131) rfl (zw_T (zt_sel (y := ⟨"TransportPair","checkSecret","(I)V"⟩) (n := 8) 2 (by decide +kernel))) ⟨by decide +kernel, by decide +kernel, by decide +kernel⟩ rfl (by decide +kernel : decode (zYf 11).2.1 2 = .ok (.invokevirtual 59, 3))) (zt_V (i := 59) (n := 1) (q := ("TransportPair", zF_0, 8)) zX_ok zeo_zm_11 zNC_ok rfl (zgood_39) (by decide +kernel) (zw_T zwd_124) (zw_T zwd_130) (zw_T zwd_131) rfl (zw_T (zt_sel (y := ⟨"TransportPair","checkSecret","(I)V"⟩) (n := 8) 2 (by decide +kernel))) ⟨by decide +kernel, by decide +kernel, by decide +kernel⟩ rfl (by decide +kernel : decode (zYf 11).2.1 2 = .ok (.invokevirtual 59, 3)))
theorem zf_zm_11_3 (env : List (Nat × Nat)) : zI9 11 zY_11 zm_11 env (5, 99, 0, 0, 0) 0 := zi_none
set_option maxRecDepth 100000 in
theorem zc_zm_11 (env : List (Nat × Nat)) : zcode zX (z_QF zEX zcl zft) (z_zm zEX zX zWL zcl zft zYf) zYf zW zET zcl zft (zGv env) 11 zm_11 zm_11.1 := ⟨Or.inl ⟨1, zf_zm_11_0 env, zpc_c⟩,
  Or.inl ⟨2, zf_zm_11_1 env, zpc_c⟩,
  Or.inr (Or.inr (Or.inl ⟨zf_zm_11_2 env, zpc_c⟩)),
  Or.inl ⟨0, zf_zm_11_3 env, zpc_n⟩, trivial⟩
theorem zf_zm_12_0 (env : List (Nat × Nat)) : zI9 12 zY_12 zm_12 env (0, 63, 1, 0, 0) 1 := zi_iload_n (by decide +kernel : decode zY_12.2.1 0 = .ok (.iload_n 1, 1)) rfl
theorem zf_zm_12_1 (env : List (Nat × Nat)) : zC9 12 zm_12 env (1, 3, 36, 65, 0) := zi_callT (by decide +kernel) (zr_S (i := 87) zX_ok rfl (zgood_36) (by decide +kernel) (zw_T zwd_124) (zw_T zwd_132) (zw_T zwd_133) ⟨by decide +kernel, by decide +kernel, by decide +kernel⟩ (by decide +kernel : decode (zYf 12).2.1 1 = .ok (.invokestatic 87, 3))) (zt_S (i := 87) zX_ok zeo_zm_12 zNC_ok rfl (zgood_36) (by decide +kernel) (zw_T zwd_124) (zw_T zwd_132) (zw_T zwd_133) ⟨by decide +kernel, by decide +kernel, by decide +kernel⟩ (by decide +kernel : decode (zYf 12).2.1 1 = .ok (.invokestatic 87, 3)))
theorem zf_zm_12_2 (env : List (Nat × Nat)) : zI9 12 zY_12 zm_12 env (4, 63, 2, 0, 0) 5 := zi_iload_n (by decide +kernel : decode zY_12.2.1 4 = .ok (.iload_n 2, 1)) rfl
theorem zf_zm_12_3 (env : List (Nat × Nat)) : zI9 12 zY_12 zm_12 env (5, 2, 1, 0, 0) 6 := zi_iconst (by decide +kernel : decode zY_12.2.1 5 = .ok (.iconst 1, 1)) (by decide +kernel)
theorem zf_zm_12_4 (env : List (Nat × Nat)) : zI9 12 zY_12 zm_12 env (6, 29, 7, 0, 0) 9 := zi_icmp_ne (off := 8) (t := 14) (by decide +kernel : decode zY_12.2.1 6 = .ok (.if_icmp .ne 8, 3)) (by decide) (by decide +kernel)
theorem zf_zm_12_5 (env : List (Nat × Nat)) : zI9 12 zY_12 zm_12 env (9, 2, 200000, 0, 0) 11 := zi_ldc (v := 200000) (by decide +kernel : decode zY_12.2.1 9 = .ok (.ldc 90, 2)) (by decide +kernel) (zw_T zwd_134)
theorem zf_zm_12_6 (env : List (Nat × Nat)) : zI9 12 zY_12 zm_12 env (11, 7, 24, 0, 0) 14 := zi_goto (off := 37) (t := 48) (by decide +kernel : decode zY_12.2.1 11 = .ok (.goto 37, 3)) (by decide) (by decide +kernel)
theorem zf_zm_12_7 (env : List (Nat × Nat)) : zI9 12 zY_12 zm_12 env (14, 63, 2, 0, 0) 15 := zi_iload_n (by decide +kernel : decode zY_12.2.1 14 = .ok (.iload_n 2, 1)) rfl
theorem zf_zm_12_8 (env : List (Nat × Nat)) : zI9 12 zY_12 zm_12 env (15, 2, 4, 0, 0) 16 := zi_iconst (by decide +kernel : decode zY_12.2.1 15 = .ok (.iconst 4, 1)) (by decide +kernel)
theorem zf_zm_12_9 (env : List (Nat × Nat)) : zI9 12 zY_12 zm_12 env (16, 30, 15, 0, 0) 19 := zi_icmp_lt (off := 14) (t := 30) (by decide +kernel : decode zY_12.2.1 16 = .ok (.if_icmp .lt 14, 3)) (by decide) (by decide +kernel)
theorem zf_zm_12_10 (env : List (Nat × Nat)) : zI9 12 zY_12 zm_12 env (19, 63, 2, 0, 0) 20 := zi_iload_n (by decide +kernel : decode zY_12.2.1 19 = .ok (.iload_n 2, 1)) rfl
theorem zf_zm_12_11 (env : List (Nat × Nat)) : zI9 12 zY_12 zm_12 env (20, 2, 7, 0, 0) 22 := zi_bipush (by decide +kernel : decode zY_12.2.1 20 = .ok (.bipush 7, 2)) (by decide +kernel)
theorem zf_zm_12_12 (env : List (Nat × Nat)) : zI9 12 zY_12 zm_12 env (22, 31, 15, 0, 0) 25 := zi_icmp_gt (off := 8) (t := 30) (by decide +kernel : decode zY_12.2.1 22 = .ok (.if_icmp .gt 8, 3)) (by decide) (by decide +kernel)
theorem zf_zm_12_13 (env : List (Nat × Nat)) : zI9 12 zY_12 zm_12 env (25, 2, 65536, 0, 0) 27 := zi_ldc (v := 65536) (by decide +kernel : decode zY_12.2.1 25 = .ok (.ldc 91, 2)) (by decide +kernel) (zw_T zwd_135)
theorem zf_zm_12_14 (env : List (Nat × Nat)) : zI9 12 zY_12 zm_12 env (27, 7, 24, 0, 0) 30 := zi_goto (off := 21) (t := 48) (by decide +kernel : decode zY_12.2.1 27 = .ok (.goto 21, 3)) (by decide) (by decide +kernel)
theorem zf_zm_12_15 (env : List (Nat × Nat)) : zI9 12 zY_12 zm_12 env (30, 63, 2, 0, 0) 31 := zi_iload_n (by decide +kernel : decode zY_12.2.1 30 = .ok (.iload_n 2, 1)) rfl
theorem zf_zm_12_16 (env : List (Nat × Nat)) : zI9 12 zY_12 zm_12 env (31, 2, 8, 0, 0) 33 := zi_bipush (by decide +kernel : decode zY_12.2.1 31 = .ok (.bipush 8, 2)) (by decide +kernel)
theorem zf_zm_12_17 (env : List (Nat × Nat)) : zI9 12 zY_12 zm_12 env (33, 20, 21, 0, 0) 36 := zi_icmp_eq (off := 9) (t := 42) (by decide +kernel : decode zY_12.2.1 33 = .ok (.if_icmp .eq 9, 3)) (by decide) (by decide +kernel)
theorem zf_zm_12_18 (env : List (Nat × Nat)) : zI9 12 zY_12 zm_12 env (36, 63, 2, 0, 0) 37 := zi_iload_n (by decide +kernel : decode zY_12.2.1 36 = .ok (.iload_n 2, 1)) rfl
theorem zf_zm_12_19 (env : List (Nat × Nat)) : zI9 12 zY_12 zm_12 env (37, 2, 9, 0, 0) 39 := zi_bipush (by decide +kernel : decode zY_12.2.1 37 = .ok (.bipush 9, 2)) (by decide +kernel)
theorem zf_zm_12_20 (env : List (Nat × Nat)) : zI9 12 zY_12 zm_12 env (39, 29, 23, 0, 0) 42 := zi_icmp_ne (off := 8) (t := 47) (by decide +kernel : decode zY_12.2.1 39 = .ok (.if_icmp .ne 8, 3)) (by decide) (by decide +kernel)
theorem zf_zm_12_21 (env : List (Nat × Nat)) : zI9 12 zY_12 zm_12 env (42, 2, 64, 0, 0) 44 := zi_bipush (by decide +kernel : decode zY_12.2.1 42 = .ok (.bipush 64, 2)) (by decide +kernel)
theorem zf_zm_12_22 (env : List (Nat × Nat)) : zI9 12 zY_12 zm_12 env (44, 7, 24, 0, 0) 47 := zi_goto (off := 4) (t := 48) (by decide +kernel : decode zY_12.2.1 44 = .ok (.goto 4, 3)) (by decide) (by decide +kernel)
theorem zf_zm_12_23 (env : List (Nat × Nat)) : zI9 12 zY_12 zm_12 env (47, 2, 4294967295, 0, 0) 48 := zi_iconst (by decide +kernel : decode zY_12.2.1 47 = .ok (.iconst (-1), 1)) (by decide +kernel)
theorem zf_zm_12_24 (env : List (Nat × Nat)) : zI9 12 zY_12 zm_12 env (48, 10, 4, 0, 0) 50 := zi_istore (by decide +kernel : decode zY_12.2.1 48 = .ok (.istore 4, 2)) (by decide)
theorem zf_zm_12_25 (env : List (Nat × Nat)) : zI9 12 zY_12 zm_12 env (50, 63, 3, 0, 0) 51 := zi_iload_n (by decide +kernel : decode zY_12.2.1 50 = .ok (.iload_n 3, 1)) rfl
theorem zf_zm_12_26 (env : List (Nat × Nat)) : zI9 12 zY_12 zm_12 env (51, 22, 30, 0, 0) 54 := zi_if_lt (off := 9) (t := 60) (by decide +kernel : decode zY_12.2.1 51 = .ok (.ifCond .lt 9, 3)) (by decide) (by decide +kernel)
theorem zf_zm_12_27 (env : List (Nat × Nat)) : zI9 12 zY_12 zm_12 env (54, 63, 3, 0, 0) 55 := zi_iload_n (by decide +kernel : decode zY_12.2.1 54 = .ok (.iload_n 3, 1)) rfl
theorem zf_zm_12_28 (env : List (Nat × Nat)) : zI9 12 zY_12 zm_12 env (55, 63, 4, 0, 0) 57 := zi_iload (by decide +kernel : decode zY_12.2.1 55 = .ok (.iload 4, 2))
theorem zf_zm_12_29 (env : List (Nat × Nat)) : zI9 12 zY_12 zm_12 env (57, 27, 31, 0, 0) 60 := zi_icmp_le (off := 11) (t := 68) (by decide +kernel : decode zY_12.2.1 57 = .ok (.if_icmp .le 11, 3)) (by decide) (by decide +kernel)
theorem zf_zm_12_30 (env : List (Nat × Nat)) : zR9 12 env (60, 39, 1, 0, 0) := zi_throw (names := znames) (ik := 56) (ic := 58) zUS_ok zfit_1 znf (zw_T zwd_127) (zw_T zwd_128) (zat_of zrest_1 zwd_129) (zgd_of zrest_1) rfl (by decide) (by decide) (by decide +kernel : decode (zYf 12).2.1 60 = .ok (.new 56, 3)) (by decide +kernel : decode (zYf 12).2.1 63 = .ok (.dup, 1)) (by decide +kernel : decode (zYf 12).2.1 64 = .ok (.invokespecial 58, 3)) (by decide +kernel : decode (zYf 12).2.1 67 = .ok (.athrow, 1))
theorem zf_zm_12_31 (env : List (Nat × Nat)) : zI9 12 zY_12 zm_12 env (68, 0, 0, 0, 0) 69 := zi_aload_n (by decide +kernel : decode zY_12.2.1 68 = .ok (.aload_n 0, 1)) rfl
theorem zf_zm_12_32 (env : List (Nat × Nat)) : zI9 12 zY_12 zm_12 env (69, 63, 1, 0, 0) 70 := zi_iload_n (by decide +kernel : decode zY_12.2.1 69 = .ok (.iload_n 1, 1)) rfl
theorem zf_zm_12_33 (env : List (Nat × Nat)) : zC9 12 zm_12 env (70, 66, 38, 130, 2) := zi_call (by decide +kernel) (zr_V (i := 92) (n := 1) (q := ("TransportPair", zF_0, 8)) zX_ok rfl (zgood_38) (by decide +kernel) (zw_T zwd_124) (zw_T zwd_136) (zw_T zwd_137) rfl (zw_T (zt_sel (y := ⟨"TransportPair","checkIdle","(I)V"⟩) (n := 8) 3 (by decide +kernel))) ⟨by decide +kernel, by decide +kernel, by decide +kernel⟩ rfl (by decide +kernel : decode (zYf 12).2.1 70 = .ok (.invokevirtual 92, 3)))
theorem zf_zm_12_34 (env : List (Nat × Nat)) : zI9 12 zY_12 zm_12 env (73, 0, 0, 0, 0) 74 := zi_aload_n (by decide +kernel : decode zY_12.2.1 73 = .ok (.aload_n 0, 1)) rfl
theorem zf_zm_12_35 (env : List (Nat × Nat)) : zI9 12 zY_12 zm_12 env (74, 1, 0, 1, 2) 77 := zi_getf (i := 27) (N := 8) (C := "TransportPair") (ref := "TransportPair") (T := zF_0) (by decide +kernel : decode zY_12.2.1 74 = .ok (.getfield 27, 3)) rfl zuw_0 (by decide) (zw_T zwd_116) rfl
theorem zf_zm_12_36 (env : List (Nat × Nat)) : zI9 12 zY_12 zm_12 env (77, 63, 1, 0, 0) 78 := zi_iload_n (by decide +kernel : decode zY_12.2.1 77 = .ok (.iload_n 1, 1)) rfl
theorem zf_zm_12_37 (env : List (Nat × Nat)) : zI9 12 zY_12 zm_12 env (78, 19, 0, 0, 0) 79 := zi_aald zft_all (by decide +kernel : decode zY_12.2.1 78 = .ok (.aaload, 1))
theorem zf_zm_12_38 (env : List (Nat × Nat)) : zI9 12 zY_12 zm_12 env (79, 1, 10, 4, 2) 82 := zi_getf (i := 95) (N := 22) (C := "TransportPair$Side") (ref := "TransportPair$Side") (T := zF_10) (by decide +kernel : decode zY_12.2.1 79 = .ok (.getfield 95, 3)) rfl zuw_10 (by decide) (zw_T zwd_138) rfl
theorem zf_zm_12_39 (env : List (Nat × Nat)) : zI9 12 zY_12 zm_12 env (82, 63, 2, 0, 0) 83 := zi_iload_n (by decide +kernel : decode zY_12.2.1 82 = .ok (.iload_n 2, 1)) rfl
theorem zf_zm_12_40 (env : List (Nat × Nat)) : zI9 12 zY_12 zm_12 env (83, 63, 3, 0, 0) 84 := zi_iload_n (by decide +kernel : decode zY_12.2.1 83 = .ok (.iload_n 3, 1)) rfl
theorem zf_zm_12_41 (env : List (Nat × Nat)) : zI9 12 zY_12 zm_12 env (84, 32, 0, 0, 0) 85 := zi_iast (by decide +kernel : decode zY_12.2.1 84 = .ok (.iastore, 1))
theorem zf_zm_12_42 (env : List (Nat × Nat)) : zI9 12 zY_12 zm_12 env (85, 0, 0, 0, 0) 86 := zi_aload_n (by decide +kernel : decode zY_12.2.1 85 = .ok (.aload_n 0, 1)) rfl
theorem zf_zm_12_43 (env : List (Nat × Nat)) : zI9 12 zY_12 zm_12 env (86, 1, 0, 1, 2) 89 := zi_getf (i := 27) (N := 8) (C := "TransportPair") (ref := "TransportPair") (T := zF_0) (by decide +kernel : decode zY_12.2.1 86 = .ok (.getfield 27, 3)) rfl zuw_0 (by decide) (zw_T zwd_116) rfl
theorem zf_zm_12_44 (env : List (Nat × Nat)) : zI9 12 zY_12 zm_12 env (89, 63, 1, 0, 0) 90 := zi_iload_n (by decide +kernel : decode zY_12.2.1 89 = .ok (.iload_n 1, 1)) rfl
theorem zf_zm_12_45 (env : List (Nat × Nat)) : zI9 12 zY_12 zm_12 env (90, 19, 0, 0, 0) 91 := zi_aald zft_all (by decide +kernel : decode zY_12.2.1 90 = .ok (.aaload, 1))
theorem zf_zm_12_46 (env : List (Nat × Nat)) : zI9 12 zY_12 zm_12 env (91, 1, 10, 6, 2) 94 := zi_getf (i := 99) (N := 22) (C := "TransportPair$Side") (ref := "TransportPair$Side") (T := zF_10) (by decide +kernel : decode zY_12.2.1 91 = .ok (.getfield 99, 3)) rfl zuw_10 (by decide) (zw_T zwd_139) rfl
theorem zf_zm_12_47 (env : List (Nat × Nat)) : zI9 12 zY_12 zm_12 env (94, 1, 12, 8, 2) 97 := zi_getf (i := 103) (N := 21) (C := "TransportPair$Streams") (ref := "TransportPair$Streams") (T := zF_12) (by decide +kernel : decode zY_12.2.1 94 = .ok (.getfield 103, 3)) rfl zuw_12 (by decide) (zw_T zwd_140) rfl
theorem zf_zm_12_48 (env : List (Nat × Nat)) : zI9 12 zY_12 zm_12 env (97, 63, 2, 0, 0) 98 := zi_iload_n (by decide +kernel : decode zY_12.2.1 97 = .ok (.iload_n 2, 1)) rfl
theorem zf_zm_12_49 (env : List (Nat × Nat)) : zI9 12 zY_12 zm_12 env (98, 63, 3, 0, 0) 99 := zi_iload_n (by decide +kernel : decode zY_12.2.1 98 = .ok (.iload_n 3, 1)) rfl
theorem zf_zm_12_50 (env : List (Nat × Nat)) : zI9 12 zY_12 zm_12 env (99, 32, 0, 0, 0) 100 := zi_iast (by decide +kernel : decode zY_12.2.1 99 = .ok (.iastore, 1))
theorem zf_zm_12_51 (env : List (Nat × Nat)) : zR9 12 env (100, 21, 0, 0, 0) := zi_vret (by decide +kernel : decode (zYf 12).2.1 100 = .ok (.return_, 1)) rfl
set_option maxRecDepth 100000 in
theorem zc_zm_12 (env : List (Nat × Nat)) : zcode zX (z_QF zEX zcl zft) (z_zm zEX zX zWL zcl zft zYf) zYf zW zET zcl zft (zGv env) 12 zm_12 zm_12.1 := ⟨Or.inl ⟨1, zf_zm_12_0 env, zpc_c⟩,
  Or.inr (Or.inr (Or.inl ⟨zf_zm_12_1 env, zpc_c⟩)),
  Or.inl ⟨5, zf_zm_12_2 env, zpc_c⟩,
  Or.inl ⟨6, zf_zm_12_3 env, zpc_c⟩,
  Or.inl ⟨9, zf_zm_12_4 env, zpc_c⟩,
  Or.inl ⟨11, zf_zm_12_5 env, zpc_c⟩,
  Or.inl ⟨14, zf_zm_12_6 env, zpc_c⟩,
  Or.inl ⟨15, zf_zm_12_7 env, zpc_c⟩,
  Or.inl ⟨16, zf_zm_12_8 env, zpc_c⟩,
  Or.inl ⟨19, zf_zm_12_9 env, zpc_c⟩,
  Or.inl ⟨20, zf_zm_12_10 env, zpc_c⟩,
  Or.inl ⟨22, zf_zm_12_11 env, zpc_c⟩,
  Or.inl ⟨25, zf_zm_12_12 env, zpc_c⟩,
  Or.inl ⟨27, zf_zm_12_13 env, zpc_c⟩,
  Or.inl ⟨30, zf_zm_12_14 env, zpc_c⟩,
  Or.inl ⟨31, zf_zm_12_15 env, zpc_c⟩,
  Or.inl ⟨33, zf_zm_12_16 env, zpc_c⟩,
  Or.inl ⟨36, zf_zm_12_17 env, zpc_c⟩,
  Or.inl ⟨37, zf_zm_12_18 env, zpc_c⟩,
  Or.inl ⟨39, zf_zm_12_19 env, zpc_c⟩,
  Or.inl ⟨42, zf_zm_12_20 env, zpc_c⟩,
  Or.inl ⟨44, zf_zm_12_21 env, zpc_c⟩,
  Or.inl ⟨47, zf_zm_12_22 env, zpc_c⟩,
  Or.inl ⟨48, zf_zm_12_23 env, zpc_c⟩,
  Or.inl ⟨50, zf_zm_12_24 env, zpc_c⟩,
  Or.inl ⟨51, zf_zm_12_25 env, zpc_c⟩,
  Or.inl ⟨54, zf_zm_12_26 env, zpc_c⟩,
  Or.inl ⟨55, zf_zm_12_27 env, zpc_c⟩,
  Or.inl ⟨57, zf_zm_12_28 env, zpc_c⟩,
  Or.inl ⟨60, zf_zm_12_29 env, zpc_c⟩,
  Or.inr (Or.inl (zf_zm_12_30 env)),
  Or.inl ⟨69, zf_zm_12_31 env, zpc_c⟩,
  Or.inl ⟨70, zf_zm_12_32 env, zpc_c⟩,
  Or.inr (Or.inr (Or.inl ⟨zf_zm_12_33 env, zpc_c⟩)),
  Or.inl ⟨74, zf_zm_12_34 env, zpc_c⟩,
  Or.inl ⟨77, zf_zm_12_35 env, zpc_c⟩,
  Or.inl ⟨78, zf_zm_12_36 env, zpc_c⟩,
  Or.inl ⟨79, zf_zm_12_37 env, zpc_c⟩,
  Or.inl ⟨82, zf_zm_12_38 env, zpc_c⟩,
  Or.inl ⟨83, zf_zm_12_39 env, zpc_c⟩,
  Or.inl ⟨84, zf_zm_12_40 env, zpc_c⟩,
  Or.inl ⟨85, zf_zm_12_41 env, zpc_c⟩,
  Or.inl ⟨86, zf_zm_12_42 env, zpc_c⟩,
  Or.inl ⟨89, zf_zm_12_43 env, zpc_c⟩,
  Or.inl ⟨90, zf_zm_12_44 env, zpc_c⟩,
  Or.inl ⟨91, zf_zm_12_45 env, zpc_c⟩,
  Or.inl ⟨94, zf_zm_12_46 env, zpc_c⟩,
  Or.inl ⟨97, zf_zm_12_47 env, zpc_c⟩,
  Or.inl ⟨98, zf_zm_12_48 env, zpc_c⟩,
  Or.inl ⟨99, zf_zm_12_49 env, zpc_c⟩,
  Or.inl ⟨100, zf_zm_12_50 env, zpc_c⟩,
  Or.inr (Or.inl (zf_zm_12_51 env)), trivial⟩
theorem zf_zm_13_0 (env : List (Nat × Nat)) : zI9 13 zY_13 zm_13 env (0, 0, 0, 0, 0) 1 := zi_aload_n (by decide +kernel : decode zY_13.2.1 0 = .ok (.aload_n 0, 1)) rfl
theorem zf_zm_13_1 (env : List (Nat × Nat)) : zI9 13 zY_13 zm_13 env (1, 1, 0, 1, 2) 4 := zi_getf (i := 27) (N := 8) (C := "TransportPair") (ref := "TransportPair") (T := zF_0) (by decide +kernel : decode zY_13.2.1 1 = .ok (.getfield 27, 3)) rfl zuw_0 (by decide) (zw_T zwd_116) rfl
theorem zf_zm_13_2 (env : List (Nat × Nat)) : zI9 13 zY_13 zm_13 env (4, 2, 0, 0, 0) 5 := zi_iconst (by decide +kernel : decode zY_13.2.1 4 = .ok (.iconst 0, 1)) (by decide +kernel)
theorem zf_zm_13_3 (env : List (Nat × Nat)) : zI9 13 zY_13 zm_13 env (5, 19, 0, 0, 0) 6 := zi_aald zft_all (by decide +kernel : decode zY_13.2.1 5 = .ok (.aaload, 1))
theorem zf_zm_13_4 (env : List (Nat × Nat)) : zI9 13 zY_13 zm_13 env (6, 1, 10, 7, 2) 9 := zi_getf (i := 62) (N := 22) (C := "TransportPair$Side") (ref := "TransportPair$Side") (T := zF_10) (by decide +kernel : decode zY_13.2.1 6 = .ok (.getfield 62, 3)) rfl zuw_10 (by decide) (zw_T zwd_141) rfl
theorem zf_zm_13_5 (env : List (Nat × Nat)) : zC9 13 zm_13 env (9, 66, 83, 65, 5) := zi_call (by decide +kernel) (zr_V (i := 108) (n := 0) (q := ("TransportPair$Greeting", zF_3, 22)) zX_ok rfl (zgood_83) (by decide +kernel) (zw_T zwd_142) (zw_T zwd_143) (zw_T zwd_144) rfl (zw_T zwd_145) ⟨by decide +kernel, by decide +kernel, by decide +kernel⟩ rfl (by decide +kernel : decode (zYf 13).2.1 9 = .ok (.invokevirtual 108, 3)))
theorem zf_zm_13_6 (env : List (Nat × Nat)) : zI9 13 zY_13 zm_13 env (12, 5, 8, 0, 0) 15 := zi_if_eq (off := 18) (t := 30) (by decide +kernel : decode zY_13.2.1 12 = .ok (.ifCond .eq 18, 3)) (by decide) (by decide +kernel)
theorem zf_zm_13_7 (env : List (Nat × Nat)) : zI9 13 zY_13 zm_13 env (15, 99, 0, 0, 0) 30 := zi_none
theorem zf_zm_13_8 (env : List (Nat × Nat)) : zR9 13 env (30, 39, 0, 0, 0) := zi_throw (names := znames) (ik := 43) (ic := 45) zUS_ok zfit_0 znf (zw_T zwd_146) (zw_T zwd_147) (zat_of zrest_0 zwd_148) (zgd_of zrest_0) rfl (by decide) (by decide) (by decide +kernel : decode (zYf 13).2.1 30 = .ok (.new 43, 3)) (by decide +kernel : decode (zYf 13).2.1 33 = .ok (.dup, 1)) (by decide +kernel : decode (zYf 13).2.1 34 = .ok (.invokespecial 45, 3)) (by decide +kernel : decode (zYf 13).2.1 37 = .ok (.athrow, 1))
theorem zf_zm_13_9 (env : List (Nat × Nat)) : zI9 13 zY_13 zm_13 env (38, 99, 0, 0, 0) 0 := zi_none
set_option maxRecDepth 100000 in
theorem zc_zm_13 (env : List (Nat × Nat)) : zcode zX (z_QF zEX zcl zft) (z_zm zEX zX zWL zcl zft zYf) zYf zW zET zcl zft (zGv env) 13 zm_13 zm_13.1 := ⟨Or.inl ⟨1, zf_zm_13_0 env, zpc_c⟩,
  Or.inl ⟨4, zf_zm_13_1 env, zpc_c⟩,
  Or.inl ⟨5, zf_zm_13_2 env, zpc_c⟩,
  Or.inl ⟨6, zf_zm_13_3 env, zpc_c⟩,
  Or.inl ⟨9, zf_zm_13_4 env, zpc_c⟩,
  Or.inr (Or.inr (Or.inl ⟨zf_zm_13_5 env, zpc_c⟩)),
  Or.inl ⟨15, zf_zm_13_6 env, zpc_c⟩,
  Or.inl ⟨30, zf_zm_13_7 env, zpc_c⟩,
  Or.inr (Or.inl (zf_zm_13_8 env)),
  Or.inl ⟨0, zf_zm_13_9 env, zpc_n⟩, trivial⟩
theorem zf_zm_14_0 (env : List (Nat × Nat)) : zI9 14 zY_14 zm_14 env (0, 63, 1, 0, 0) 1 := zi_iload_n (by decide +kernel : decode zY_14.2.1 0 = .ok (.iload_n 1, 1)) rfl
theorem zf_zm_14_1 (env : List (Nat × Nat)) : zC9 14 zm_14 env (1, 3, 36, 65, 0) := zi_callT (by decide +kernel) (zr_S (i := 87) zX_ok rfl (zgood_36) (by decide +kernel) (zw_T zwd_124) (zw_T zwd_132) (zw_T zwd_133) ⟨by decide +kernel, by decide +kernel, by decide +kernel⟩ (by decide +kernel : decode (zYf 14).2.1 1 = .ok (.invokestatic 87, 3))) (zt_S (i := 87) zX_ok zeo_zm_14 zNC_ok rfl (zgood_36) (by decide +kernel) (zw_T zwd_124) (zw_T zwd_132) (zw_T zwd_133) ⟨by decide +kernel, by decide +kernel, by decide +kernel⟩ (by decide +kernel : decode (zYf 14).2.1 1 = .ok (.invokestatic 87, 3)))
theorem zf_zm_14_2 (env : List (Nat × Nat)) : zI9 14 zY_14 zm_14 env (4, 0, 0, 0, 0) 5 := zi_aload_n (by decide +kernel : decode zY_14.2.1 4 = .ok (.aload_n 0, 1)) rfl
theorem zf_zm_14_3 (env : List (Nat × Nat)) : zI9 14 zY_14 zm_14 env (5, 1, 0, 1, 2) 8 := zi_getf (i := 27) (N := 8) (C := "TransportPair") (ref := "TransportPair") (T := zF_0) (by decide +kernel : decode zY_14.2.1 5 = .ok (.getfield 27, 3)) rfl zuw_0 (by decide) (zw_T zwd_116) rfl
theorem zf_zm_14_4 (env : List (Nat × Nat)) : zI9 14 zY_14 zm_14 env (8, 63, 1, 0, 0) 9 := zi_iload_n (by decide +kernel : decode zY_14.2.1 8 = .ok (.iload_n 1, 1)) rfl
theorem zf_zm_14_5 (env : List (Nat × Nat)) : zI9 14 zY_14 zm_14 env (9, 19, 0, 0, 0) 10 := zi_aald zft_all (by decide +kernel : decode zY_14.2.1 9 = .ok (.aaload, 1))
theorem zf_zm_14_6 (env : List (Nat × Nat)) : zI9 14 zY_14 zm_14 env (10, 1, 10, 6, 2) 13 := zi_getf (i := 99) (N := 22) (C := "TransportPair$Side") (ref := "TransportPair$Side") (T := zF_10) (by decide +kernel : decode zY_14.2.1 10 = .ok (.getfield 99, 3)) rfl zuw_10 (by decide) (zw_T zwd_139) rfl
theorem zf_zm_14_7 (env : List (Nat × Nat)) : zI9 14 zY_14 zm_14 env (13, 63, 2, 0, 0) 14 := zi_iload_n (by decide +kernel : decode zY_14.2.1 13 = .ok (.iload_n 2, 1)) rfl
theorem zf_zm_14_8 (env : List (Nat × Nat)) : zI9 14 zY_14 zm_14 env (14, 5, 11, 0, 0) 17 := zi_if_eq (off := 7) (t := 21) (by decide +kernel : decode zY_14.2.1 14 = .ok (.ifCond .eq 7, 3)) (by decide) (by decide +kernel)
theorem zf_zm_14_9 (env : List (Nat × Nat)) : zI9 14 zY_14 zm_14 env (17, 2, 0, 0, 0) 18 := zi_iconst (by decide +kernel : decode zY_14.2.1 17 = .ok (.iconst 0, 1)) (by decide +kernel)
theorem zf_zm_14_10 (env : List (Nat × Nat)) : zI9 14 zY_14 zm_14 env (18, 7, 12, 0, 0) 21 := zi_goto (off := 4) (t := 22) (by decide +kernel : decode zY_14.2.1 18 = .ok (.goto 4, 3)) (by decide) (by decide +kernel)
theorem zf_zm_14_11 (env : List (Nat × Nat)) : zI9 14 zY_14 zm_14 env (21, 2, 1, 0, 0) 22 := zi_iconst (by decide +kernel : decode zY_14.2.1 21 = .ok (.iconst 1, 1)) (by decide +kernel)
theorem zf_zm_14_12 (env : List (Nat × Nat)) : zC9 14 zm_14 env (22, 66, 101, 131, 14) := zi_call (by decide +kernel) (zr_V (i := 115) (n := 1) (q := ("TransportPair$Streams", zF_12, 21)) zX_ok rfl (zgood_101) (by decide +kernel) (zw_T zwd_149) (zw_T zwd_150) (zw_T zwd_151) rfl (zw_T zwd_152) ⟨by decide +kernel, by decide +kernel, by decide +kernel⟩ rfl (by decide +kernel : decode (zYf 14).2.1 22 = .ok (.invokevirtual 115, 3)))
theorem zf_zm_14_13 (env : List (Nat × Nat)) : zR9 14 env (25, 11, 0, 0, 0) := zi_iret (by decide +kernel : decode (zYf 14).2.1 25 = .ok (.ireturn, 1)) rfl
set_option maxRecDepth 100000 in
theorem zc_zm_14 (env : List (Nat × Nat)) : zcode zX (z_QF zEX zcl zft) (z_zm zEX zX zWL zcl zft zYf) zYf zW zET zcl zft (zGv env) 14 zm_14 zm_14.1 := ⟨Or.inl ⟨1, zf_zm_14_0 env, zpc_c⟩,
  Or.inr (Or.inr (Or.inl ⟨zf_zm_14_1 env, zpc_c⟩)),
  Or.inl ⟨5, zf_zm_14_2 env, zpc_c⟩,
  Or.inl ⟨8, zf_zm_14_3 env, zpc_c⟩,
  Or.inl ⟨9, zf_zm_14_4 env, zpc_c⟩,
  Or.inl ⟨10, zf_zm_14_5 env, zpc_c⟩,
  Or.inl ⟨13, zf_zm_14_6 env, zpc_c⟩,
  Or.inl ⟨14, zf_zm_14_7 env, zpc_c⟩,
  Or.inl ⟨17, zf_zm_14_8 env, zpc_c⟩,
  Or.inl ⟨18, zf_zm_14_9 env, zpc_c⟩,
  Or.inl ⟨21, zf_zm_14_10 env, zpc_c⟩,
  Or.inl ⟨22, zf_zm_14_11 env, zpc_c⟩,
  Or.inr (Or.inr (Or.inl ⟨zf_zm_14_12 env, zpc_c⟩)),
  Or.inr (Or.inl (zf_zm_14_13 env)), trivial⟩
theorem zf_zm_15_0 (env : List (Nat × Nat)) : zI9 15 zY_15 zm_15 env (0, 63, 1, 0, 0) 1 := zi_iload_n (by decide +kernel : decode zY_15.2.1 0 = .ok (.iload_n 1, 1)) rfl
theorem zf_zm_15_1 (env : List (Nat × Nat)) : zC9 15 zm_15 env (1, 3, 36, 65, 0) := zi_callT (by decide +kernel) (zr_S (i := 87) zX_ok rfl (zgood_36) (by decide +kernel) (zw_T zwd_124) (zw_T zwd_132) (zw_T zwd_133) ⟨by decide +kernel, by decide +kernel, by decide +kernel⟩ (by decide +kernel : decode (zYf 15).2.1 1 = .ok (.invokestatic 87, 3))) (zt_S (i := 87) zX_ok zeo_zm_15 zNC_ok rfl (zgood_36) (by decide +kernel) (zw_T zwd_124) (zw_T zwd_132) (zw_T zwd_133) ⟨by decide +kernel, by decide +kernel, by decide +kernel⟩ (by decide +kernel : decode (zYf 15).2.1 1 = .ok (.invokestatic 87, 3)))
theorem zf_zm_15_2 (env : List (Nat × Nat)) : zI9 15 zY_15 zm_15 env (4, 0, 0, 0, 0) 5 := zi_aload_n (by decide +kernel : decode zY_15.2.1 4 = .ok (.aload_n 0, 1)) rfl
theorem zf_zm_15_3 (env : List (Nat × Nat)) : zI9 15 zY_15 zm_15 env (5, 1, 0, 3, 0) 8 := zi_getf (i := 38) (N := 8) (C := "TransportPair") (ref := "TransportPair") (T := zF_0) (by decide +kernel : decode zY_15.2.1 5 = .ok (.getfield 38, 3)) rfl zuw_0 (by decide) (zw_T zwd_119) rfl
theorem zf_zm_15_4 (env : List (Nat × Nat)) : zI9 15 zY_15 zm_15 env (8, 10, 3, 0, 0) 9 := zi_istore_n (by decide +kernel : decode zY_15.2.1 8 = .ok (.istore_n 3, 1)) rfl (by decide)
theorem zf_zm_15_5 (env : List (Nat × Nat)) : zI9 15 zY_15 zm_15 env (9, 0, 0, 0, 0) 10 := zi_aload_n (by decide +kernel : decode zY_15.2.1 9 = .ok (.aload_n 0, 1)) rfl
theorem zf_zm_15_6 (env : List (Nat × Nat)) : zI9 15 zY_15 zm_15 env (10, 2, 0, 0, 0) 11 := zi_iconst (by decide +kernel : decode zY_15.2.1 10 = .ok (.iconst 0, 1)) (by decide +kernel)
theorem zf_zm_15_7 (env : List (Nat × Nat)) : zI9 15 zY_15 zm_15 env (11, 4, 0, 3, 0) 14 := zi_putf (i := 38) (N := 8) (C := "TransportPair") (ref := "TransportPair") (T := zF_0) (by decide +kernel : decode zY_15.2.1 11 = .ok (.putfield 38, 3)) rfl zuw_0 zFt_0 zFn_0 (by decide) (zw_T zwd_119) rfl rfl (ty := .int) (by decide +kernel) (rfl)
theorem zf_zm_15_8 (env : List (Nat × Nat)) : zI9 15 zY_15 zm_15 env (14, 0, 0, 0, 0) 15 := zi_aload_n (by decide +kernel : decode zY_15.2.1 14 = .ok (.aload_n 0, 1)) rfl
theorem zf_zm_15_9 (env : List (Nat × Nat)) : zI9 15 zY_15 zm_15 env (15, 1, 0, 1, 2) 18 := zi_getf (i := 27) (N := 8) (C := "TransportPair") (ref := "TransportPair") (T := zF_0) (by decide +kernel : decode zY_15.2.1 15 = .ok (.getfield 27, 3)) rfl zuw_0 (by decide) (zw_T zwd_116) rfl
theorem zf_zm_15_10 (env : List (Nat × Nat)) : zI9 15 zY_15 zm_15 env (18, 63, 1, 0, 0) 19 := zi_iload_n (by decide +kernel : decode zY_15.2.1 18 = .ok (.iload_n 1, 1)) rfl
theorem zf_zm_15_11 (env : List (Nat × Nat)) : zI9 15 zY_15 zm_15 env (19, 19, 0, 0, 0) 20 := zi_aald zft_all (by decide +kernel : decode zY_15.2.1 19 = .ok (.aaload, 1))
theorem zf_zm_15_12 (env : List (Nat × Nat)) : zI9 15 zY_15 zm_15 env (20, 1, 10, 6, 2) 23 := zi_getf (i := 99) (N := 22) (C := "TransportPair$Side") (ref := "TransportPair$Side") (T := zF_10) (by decide +kernel : decode zY_15.2.1 20 = .ok (.getfield 99, 3)) rfl zuw_10 (by decide) (zw_T zwd_139) rfl
theorem zf_zm_15_13 (env : List (Nat × Nat)) : zI9 15 zY_15 zm_15 env (23, 63, 2, 0, 0) 24 := zi_iload_n (by decide +kernel : decode zY_15.2.1 23 = .ok (.iload_n 2, 1)) rfl
theorem zf_zm_15_14 (env : List (Nat × Nat)) : zI9 15 zY_15 zm_15 env (24, 0, 0, 0, 0) 25 := zi_aload_n (by decide +kernel : decode zY_15.2.1 24 = .ok (.aload_n 0, 1)) rfl
theorem zf_zm_15_15 (env : List (Nat × Nat)) : zI9 15 zY_15 zm_15 env (25, 1, 0, 2, 2) 28 := zi_getf (i := 31) (N := 8) (C := "TransportPair") (ref := "TransportPair") (T := zF_0) (by decide +kernel : decode zY_15.2.1 25 = .ok (.getfield 31, 3)) rfl zuw_0 (by decide) (zw_T zwd_117) rfl
theorem zf_zm_15_16 (env : List (Nat × Nat)) : zI9 15 zY_15 zm_15 env (28, 63, 3, 0, 0) 29 := zi_iload_n (by decide +kernel : decode zY_15.2.1 28 = .ok (.iload_n 3, 1)) rfl
theorem zf_zm_15_17 (env : List (Nat × Nat)) : zC9 15 zm_15 env (29, 66, 102, 262, 14) := zi_call (by decide +kernel) (zr_V (i := 119) (n := 3) (q := ("TransportPair$Streams", zF_12, 21)) zX_ok rfl (zgood_102) (by decide +kernel) (zw_T zwd_149) (zw_T zwd_153) (zw_T zwd_154) rfl (zw_T zwd_155) ⟨by decide +kernel, by decide +kernel, by decide +kernel⟩ rfl (by decide +kernel : decode (zYf 15).2.1 29 = .ok (.invokevirtual 119, 3)))
theorem zf_zm_15_18 (env : List (Nat × Nat)) : zR9 15 env (32, 11, 0, 0, 0) := zi_iret (by decide +kernel : decode (zYf 15).2.1 32 = .ok (.ireturn, 1)) rfl
set_option maxRecDepth 100000 in
theorem zc_zm_15 (env : List (Nat × Nat)) : zcode zX (z_QF zEX zcl zft) (z_zm zEX zX zWL zcl zft zYf) zYf zW zET zcl zft (zGv env) 15 zm_15 zm_15.1 := ⟨Or.inl ⟨1, zf_zm_15_0 env, zpc_c⟩,
  Or.inr (Or.inr (Or.inl ⟨zf_zm_15_1 env, zpc_c⟩)),
  Or.inl ⟨5, zf_zm_15_2 env, zpc_c⟩,
  Or.inl ⟨8, zf_zm_15_3 env, zpc_c⟩,
  Or.inl ⟨9, zf_zm_15_4 env, zpc_c⟩,
  Or.inl ⟨10, zf_zm_15_5 env, zpc_c⟩,
  Or.inl ⟨11, zf_zm_15_6 env, zpc_c⟩,
  Or.inl ⟨14, zf_zm_15_7 env, zpc_c⟩,
  Or.inl ⟨15, zf_zm_15_8 env, zpc_c⟩,
  Or.inl ⟨18, zf_zm_15_9 env, zpc_c⟩,
  Or.inl ⟨19, zf_zm_15_10 env, zpc_c⟩,
  Or.inl ⟨20, zf_zm_15_11 env, zpc_c⟩,
  Or.inl ⟨23, zf_zm_15_12 env, zpc_c⟩,
  Or.inl ⟨24, zf_zm_15_13 env, zpc_c⟩,
  Or.inl ⟨25, zf_zm_15_14 env, zpc_c⟩,
  Or.inl ⟨28, zf_zm_15_15 env, zpc_c⟩,
  Or.inl ⟨29, zf_zm_15_16 env, zpc_c⟩,
  Or.inr (Or.inr (Or.inl ⟨zf_zm_15_17 env, zpc_c⟩)),
  Or.inr (Or.inl (zf_zm_15_18 env)), trivial⟩
theorem zf_zm_16_0 (env : List (Nat × Nat)) : zI9 16 zY_16 zm_16 env (0, 63, 1, 0, 0) 1 := zi_iload_n (by decide +kernel : decode zY_16.2.1 0 = .ok (.iload_n 1, 1)) rfl
theorem zf_zm_16_1 (env : List (Nat × Nat)) : zC9 16 zm_16 env (1, 3, 36, 65, 0) := zi_callT (by decide +kernel) (zr_S (i := 87) zX_ok rfl (zgood_36) (by decide +kernel) (zw_T zwd_124) (zw_T zwd_132) (zw_T zwd_133) ⟨by decide +kernel, by decide +kernel, by decide +kernel⟩ (by decide +kernel : decode (zYf 16).2.1 1 = .ok (.invokestatic 87, 3))) (zt_S (i := 87) zX_ok zeo_zm_16 zNC_ok rfl (zgood_36) (by decide +kernel) (zw_T zwd_124) (zw_T zwd_132) (zw_T zwd_133) ⟨by decide +kernel, by decide +kernel, by decide +kernel⟩ (by decide +kernel : decode (zYf 16).2.1 1 = .ok (.invokestatic 87, 3)))
theorem zf_zm_16_2 (env : List (Nat × Nat)) : zI9 16 zY_16 zm_16 env (4, 0, 0, 0, 0) 5 := zi_aload_n (by decide +kernel : decode zY_16.2.1 4 = .ok (.aload_n 0, 1)) rfl
theorem zf_zm_16_3 (env : List (Nat × Nat)) : zI9 16 zY_16 zm_16 env (5, 1, 0, 1, 2) 8 := zi_getf (i := 27) (N := 8) (C := "TransportPair") (ref := "TransportPair") (T := zF_0) (by decide +kernel : decode zY_16.2.1 5 = .ok (.getfield 27, 3)) rfl zuw_0 (by decide) (zw_T zwd_116) rfl
theorem zf_zm_16_4 (env : List (Nat × Nat)) : zI9 16 zY_16 zm_16 env (8, 63, 1, 0, 0) 9 := zi_iload_n (by decide +kernel : decode zY_16.2.1 8 = .ok (.iload_n 1, 1)) rfl
theorem zf_zm_16_5 (env : List (Nat × Nat)) : zI9 16 zY_16 zm_16 env (9, 19, 0, 0, 0) 10 := zi_aald zft_all (by decide +kernel : decode zY_16.2.1 9 = .ok (.aaload, 1))
theorem zf_zm_16_6 (env : List (Nat × Nat)) : zI9 16 zY_16 zm_16 env (10, 1, 10, 6, 2) 13 := zi_getf (i := 99) (N := 22) (C := "TransportPair$Side") (ref := "TransportPair$Side") (T := zF_10) (by decide +kernel : decode zY_16.2.1 10 = .ok (.getfield 99, 3)) rfl zuw_10 (by decide) (zw_T zwd_139) rfl
theorem zf_zm_16_7 (env : List (Nat × Nat)) : zI9 16 zY_16 zm_16 env (13, 63, 2, 0, 0) 14 := zi_iload_n (by decide +kernel : decode zY_16.2.1 13 = .ok (.iload_n 2, 1)) rfl
theorem zf_zm_16_8 (env : List (Nat × Nat)) : zC9 16 zm_16 env (14, 66, 103, 131, 14) := zi_call (by decide +kernel) (zr_V (i := 123) (n := 1) (q := ("TransportPair$Streams", zF_12, 21)) zX_ok rfl (zgood_103) (by decide +kernel) (zw_T zwd_149) (zw_T zwd_156) (zw_T zwd_157) rfl (zw_T zwd_158) ⟨by decide +kernel, by decide +kernel, by decide +kernel⟩ rfl (by decide +kernel : decode (zYf 16).2.1 14 = .ok (.invokevirtual 123, 3)))
theorem zf_zm_16_9 (env : List (Nat × Nat)) : zR9 16 env (17, 11, 3, 0, 0) := zi_zret (by decide +kernel : decode (zYf 16).2.1 17 = .ok (.ireturn, 1)) rfl
set_option maxRecDepth 100000 in
theorem zc_zm_16 (env : List (Nat × Nat)) : zcode zX (z_QF zEX zcl zft) (z_zm zEX zX zWL zcl zft zYf) zYf zW zET zcl zft (zGv env) 16 zm_16 zm_16.1 := ⟨Or.inl ⟨1, zf_zm_16_0 env, zpc_c⟩,
  Or.inr (Or.inr (Or.inl ⟨zf_zm_16_1 env, zpc_c⟩)),
  Or.inl ⟨5, zf_zm_16_2 env, zpc_c⟩,
  Or.inl ⟨8, zf_zm_16_3 env, zpc_c⟩,
  Or.inl ⟨9, zf_zm_16_4 env, zpc_c⟩,
  Or.inl ⟨10, zf_zm_16_5 env, zpc_c⟩,
  Or.inl ⟨13, zf_zm_16_6 env, zpc_c⟩,
  Or.inl ⟨14, zf_zm_16_7 env, zpc_c⟩,
  Or.inr (Or.inr (Or.inl ⟨zf_zm_16_8 env, zpc_c⟩)),
  Or.inr (Or.inl (zf_zm_16_9 env)), trivial⟩
theorem zf_zm_17_0 (env : List (Nat × Nat)) : zI9 17 zY_17 zm_17 env (0, 63, 1, 0, 0) 1 := zi_iload_n (by decide +kernel : decode zY_17.2.1 0 = .ok (.iload_n 1, 1)) rfl
theorem zf_zm_17_1 (env : List (Nat × Nat)) : zC9 17 zm_17 env (1, 3, 36, 65, 0) := zi_callT (by decide +kernel) (zr_S (i := 87) zX_ok rfl (zgood_36) (by decide +kernel) (zw_T zwd_124) (zw_T zwd_132) (zw_T zwd_133) ⟨by decide +kernel, by decide +kernel, by decide +kernel⟩ (by decide +kernel : decode (zYf 17).2.1 1 = .ok (.invokestatic 87, 3))) (zt_S (i := 87) zX_ok zeo_zm_17 zNC_ok rfl (zgood_36) (by decide +kernel) (zw_T zwd_124) (zw_T zwd_132) (zw_T zwd_133) ⟨by decide +kernel, by decide +kernel, by decide +kernel⟩ (by decide +kernel : decode (zYf 17).2.1 1 = .ok (.invokestatic 87, 3)))
theorem zf_zm_17_2 (env : List (Nat × Nat)) : zI9 17 zY_17 zm_17 env (4, 63, 3, 0, 0) 5 := zi_iload_n (by decide +kernel : decode zY_17.2.1 4 = .ok (.iload_n 3, 1)) rfl
theorem zf_zm_17_3 (env : List (Nat × Nat)) : zI9 17 zY_17 zm_17 env (5, 2, 2147483647, 0, 0) 7 := zi_ldc (v := 2147483647) (by decide +kernel : decode zY_17.2.1 5 = .ok (.ldc 127, 2)) (by decide +kernel) (zw_T zwd_159)
theorem zf_zm_17_4 (env : List (Nat × Nat)) : zC9 17 zm_17 env (7, 3, 37, 130, 0) := zi_callT (by decide +kernel) (zr_S (i := 128) zX_ok rfl (zgood_37) (by decide +kernel) (zw_T zwd_124) (zw_T zwd_160) (zw_T zwd_161) ⟨by decide +kernel, by decide +kernel, by decide +kernel⟩ (by decide +kernel : decode (zYf 17).2.1 7 = .ok (.invokestatic 128, 3))) (zt_S (i := 128) zX_ok zeo_zm_17 zNC_ok rfl (zgood_37) (by decide +kernel) (zw_T zwd_124) (zw_T zwd_160) (zw_T zwd_161) ⟨by decide +kernel, by decide +kernel, by decide +kernel⟩ (by decide +kernel : decode (zYf 17).2.1 7 = .ok (.invokestatic 128, 3)))
theorem zf_zm_17_5 (env : List (Nat × Nat)) : zI9 17 zY_17 zm_17 env (10, 0, 0, 0, 0) 11 := zi_aload_n (by decide +kernel : decode zY_17.2.1 10 = .ok (.aload_n 0, 1)) rfl
theorem zf_zm_17_6 (env : List (Nat × Nat)) : zI9 17 zY_17 zm_17 env (11, 1, 0, 1, 2) 14 := zi_getf (i := 27) (N := 8) (C := "TransportPair") (ref := "TransportPair") (T := zF_0) (by decide +kernel : decode zY_17.2.1 11 = .ok (.getfield 27, 3)) rfl zuw_0 (by decide) (zw_T zwd_116) rfl
theorem zf_zm_17_7 (env : List (Nat × Nat)) : zI9 17 zY_17 zm_17 env (14, 63, 1, 0, 0) 15 := zi_iload_n (by decide +kernel : decode zY_17.2.1 14 = .ok (.iload_n 1, 1)) rfl
theorem zf_zm_17_8 (env : List (Nat × Nat)) : zI9 17 zY_17 zm_17 env (15, 19, 0, 0, 0) 16 := zi_aald zft_all (by decide +kernel : decode zY_17.2.1 15 = .ok (.aaload, 1))
theorem zf_zm_17_9 (env : List (Nat × Nat)) : zI9 17 zY_17 zm_17 env (16, 1, 10, 6, 2) 19 := zi_getf (i := 99) (N := 22) (C := "TransportPair$Side") (ref := "TransportPair$Side") (T := zF_10) (by decide +kernel : decode zY_17.2.1 16 = .ok (.getfield 99, 3)) rfl zuw_10 (by decide) (zw_T zwd_139) rfl
theorem zf_zm_17_10 (env : List (Nat × Nat)) : zI9 17 zY_17 zm_17 env (19, 63, 2, 0, 0) 20 := zi_iload_n (by decide +kernel : decode zY_17.2.1 19 = .ok (.iload_n 2, 1)) rfl
theorem zf_zm_17_11 (env : List (Nat × Nat)) : zI9 17 zY_17 zm_17 env (20, 63, 3, 0, 0) 21 := zi_iload_n (by decide +kernel : decode zY_17.2.1 20 = .ok (.iload_n 3, 1)) rfl
theorem zf_zm_17_12 (env : List (Nat × Nat)) : zC9 17 zm_17 env (21, 66, 104, 196, 14) := zi_call (by decide +kernel) (zr_V (i := 132) (n := 2) (q := ("TransportPair$Streams", zF_12, 21)) zX_ok rfl (zgood_104) (by decide +kernel) (zw_T zwd_149) (zw_T zwd_162) (zw_T zwd_163) rfl (zw_T zwd_164) ⟨by decide +kernel, by decide +kernel, by decide +kernel⟩ rfl (by decide +kernel : decode (zYf 17).2.1 21 = .ok (.invokevirtual 132, 3)))
theorem zf_zm_17_13 (env : List (Nat × Nat)) : zR9 17 env (24, 11, 3, 0, 0) := zi_zret (by decide +kernel : decode (zYf 17).2.1 24 = .ok (.ireturn, 1)) rfl
set_option maxRecDepth 100000 in
theorem zc_zm_17 (env : List (Nat × Nat)) : zcode zX (z_QF zEX zcl zft) (z_zm zEX zX zWL zcl zft zYf) zYf zW zET zcl zft (zGv env) 17 zm_17 zm_17.1 := ⟨Or.inl ⟨1, zf_zm_17_0 env, zpc_c⟩,
  Or.inr (Or.inr (Or.inl ⟨zf_zm_17_1 env, zpc_c⟩)),
  Or.inl ⟨5, zf_zm_17_2 env, zpc_c⟩,
  Or.inl ⟨7, zf_zm_17_3 env, zpc_c⟩,
  Or.inr (Or.inr (Or.inl ⟨zf_zm_17_4 env, zpc_c⟩)),
  Or.inl ⟨11, zf_zm_17_5 env, zpc_c⟩,
  Or.inl ⟨14, zf_zm_17_6 env, zpc_c⟩,
  Or.inl ⟨15, zf_zm_17_7 env, zpc_c⟩,
  Or.inl ⟨16, zf_zm_17_8 env, zpc_c⟩,
  Or.inl ⟨19, zf_zm_17_9 env, zpc_c⟩,
  Or.inl ⟨20, zf_zm_17_10 env, zpc_c⟩,
  Or.inl ⟨21, zf_zm_17_11 env, zpc_c⟩,
  Or.inr (Or.inr (Or.inl ⟨zf_zm_17_12 env, zpc_c⟩)),
  Or.inr (Or.inl (zf_zm_17_13 env)), trivial⟩
theorem zf_zm_18_0 (env : List (Nat × Nat)) : zI9 18 zY_18 zm_18 env (0, 63, 1, 0, 0) 1 := zi_iload_n (by decide +kernel : decode zY_18.2.1 0 = .ok (.iload_n 1, 1)) rfl
theorem zf_zm_18_1 (env : List (Nat × Nat)) : zC9 18 zm_18 env (1, 3, 36, 65, 0) := zi_callT (by decide +kernel) (zr_S (i := 87) zX_ok rfl (zgood_36) (by decide +kernel) (zw_T zwd_124) (zw_T zwd_132) (zw_T zwd_133) ⟨by decide +kernel, by decide +kernel, by decide +kernel⟩ (by decide +kernel : decode (zYf 18).2.1 1 = .ok (.invokestatic 87, 3))) (zt_S (i := 87) zX_ok zeo_zm_18 zNC_ok rfl (zgood_36) (by decide +kernel) (zw_T zwd_124) (zw_T zwd_132) (zw_T zwd_133) ⟨by decide +kernel, by decide +kernel, by decide +kernel⟩ (by decide +kernel : decode (zYf 18).2.1 1 = .ok (.invokestatic 87, 3)))
theorem zf_zm_18_2 (env : List (Nat × Nat)) : zI9 18 zY_18 zm_18 env (4, 63, 3, 0, 0) 5 := zi_iload_n (by decide +kernel : decode zY_18.2.1 4 = .ok (.iload_n 3, 1)) rfl
theorem zf_zm_18_3 (env : List (Nat × Nat)) : zI9 18 zY_18 zm_18 env (5, 2, 2147483647, 0, 0) 7 := zi_ldc (v := 2147483647) (by decide +kernel : decode zY_18.2.1 5 = .ok (.ldc 127, 2)) (by decide +kernel) (zw_T zwd_159)
theorem zf_zm_18_4 (env : List (Nat × Nat)) : zC9 18 zm_18 env (7, 3, 37, 130, 0) := zi_callT (by decide +kernel) (zr_S (i := 128) zX_ok rfl (zgood_37) (by decide +kernel) (zw_T zwd_124) (zw_T zwd_160) (zw_T zwd_161) ⟨by decide +kernel, by decide +kernel, by decide +kernel⟩ (by decide +kernel : decode (zYf 18).2.1 7 = .ok (.invokestatic 128, 3))) (zt_S (i := 128) zX_ok zeo_zm_18 zNC_ok rfl (zgood_37) (by decide +kernel) (zw_T zwd_124) (zw_T zwd_160) (zw_T zwd_161) ⟨by decide +kernel, by decide +kernel, by decide +kernel⟩ (by decide +kernel : decode (zYf 18).2.1 7 = .ok (.invokestatic 128, 3)))
theorem zf_zm_18_5 (env : List (Nat × Nat)) : zI9 18 zY_18 zm_18 env (10, 0, 0, 0, 0) 11 := zi_aload_n (by decide +kernel : decode zY_18.2.1 10 = .ok (.aload_n 0, 1)) rfl
theorem zf_zm_18_6 (env : List (Nat × Nat)) : zI9 18 zY_18 zm_18 env (11, 1, 0, 1, 2) 14 := zi_getf (i := 27) (N := 8) (C := "TransportPair") (ref := "TransportPair") (T := zF_0) (by decide +kernel : decode zY_18.2.1 11 = .ok (.getfield 27, 3)) rfl zuw_0 (by decide) (zw_T zwd_116) rfl
theorem zf_zm_18_7 (env : List (Nat × Nat)) : zI9 18 zY_18 zm_18 env (14, 63, 1, 0, 0) 15 := zi_iload_n (by decide +kernel : decode zY_18.2.1 14 = .ok (.iload_n 1, 1)) rfl
theorem zf_zm_18_8 (env : List (Nat × Nat)) : zI9 18 zY_18 zm_18 env (15, 19, 0, 0, 0) 16 := zi_aald zft_all (by decide +kernel : decode zY_18.2.1 15 = .ok (.aaload, 1))
theorem zf_zm_18_9 (env : List (Nat × Nat)) : zI9 18 zY_18 zm_18 env (16, 1, 10, 6, 2) 19 := zi_getf (i := 99) (N := 22) (C := "TransportPair$Side") (ref := "TransportPair$Side") (T := zF_10) (by decide +kernel : decode zY_18.2.1 16 = .ok (.getfield 99, 3)) rfl zuw_10 (by decide) (zw_T zwd_139) rfl
theorem zf_zm_18_10 (env : List (Nat × Nat)) : zI9 18 zY_18 zm_18 env (19, 63, 2, 0, 0) 20 := zi_iload_n (by decide +kernel : decode zY_18.2.1 19 = .ok (.iload_n 2, 1)) rfl
theorem zf_zm_18_11 (env : List (Nat × Nat)) : zI9 18 zY_18 zm_18 env (20, 63, 3, 0, 0) 21 := zi_iload_n (by decide +kernel : decode zY_18.2.1 20 = .ok (.iload_n 3, 1)) rfl
theorem zf_zm_18_12 (env : List (Nat × Nat)) : zC9 18 zm_18 env (21, 66, 105, 196, 14) := zi_call (by decide +kernel) (zr_V (i := 136) (n := 2) (q := ("TransportPair$Streams", zF_12, 21)) zX_ok rfl (zgood_105) (by decide +kernel) (zw_T zwd_149) (zw_T zwd_165) (zw_T zwd_166) rfl (zw_T zwd_167) ⟨by decide +kernel, by decide +kernel, by decide +kernel⟩ rfl (by decide +kernel : decode (zYf 18).2.1 21 = .ok (.invokevirtual 136, 3)))
theorem zf_zm_18_13 (env : List (Nat × Nat)) : zR9 18 env (24, 11, 3, 0, 0) := zi_zret (by decide +kernel : decode (zYf 18).2.1 24 = .ok (.ireturn, 1)) rfl
set_option maxRecDepth 100000 in
theorem zc_zm_18 (env : List (Nat × Nat)) : zcode zX (z_QF zEX zcl zft) (z_zm zEX zX zWL zcl zft zYf) zYf zW zET zcl zft (zGv env) 18 zm_18 zm_18.1 := ⟨Or.inl ⟨1, zf_zm_18_0 env, zpc_c⟩,
  Or.inr (Or.inr (Or.inl ⟨zf_zm_18_1 env, zpc_c⟩)),
  Or.inl ⟨5, zf_zm_18_2 env, zpc_c⟩,
  Or.inl ⟨7, zf_zm_18_3 env, zpc_c⟩,
  Or.inr (Or.inr (Or.inl ⟨zf_zm_18_4 env, zpc_c⟩)),
  Or.inl ⟨11, zf_zm_18_5 env, zpc_c⟩,
  Or.inl ⟨14, zf_zm_18_6 env, zpc_c⟩,
  Or.inl ⟨15, zf_zm_18_7 env, zpc_c⟩,
  Or.inl ⟨16, zf_zm_18_8 env, zpc_c⟩,
  Or.inl ⟨19, zf_zm_18_9 env, zpc_c⟩,
  Or.inl ⟨20, zf_zm_18_10 env, zpc_c⟩,
  Or.inl ⟨21, zf_zm_18_11 env, zpc_c⟩,
  Or.inr (Or.inr (Or.inl ⟨zf_zm_18_12 env, zpc_c⟩)),
  Or.inr (Or.inl (zf_zm_18_13 env)), trivial⟩
theorem zf_zm_19_0 (env : List (Nat × Nat)) : zI9 19 zY_19 zm_19 env (0, 63, 1, 0, 0) 1 := zi_iload_n (by decide +kernel : decode zY_19.2.1 0 = .ok (.iload_n 1, 1)) rfl
theorem zf_zm_19_1 (env : List (Nat × Nat)) : zC9 19 zm_19 env (1, 3, 36, 65, 0) := zi_callT (by decide +kernel) (zr_S (i := 87) zX_ok rfl (zgood_36) (by decide +kernel) (zw_T zwd_124) (zw_T zwd_132) (zw_T zwd_133) ⟨by decide +kernel, by decide +kernel, by decide +kernel⟩ (by decide +kernel : decode (zYf 19).2.1 1 = .ok (.invokestatic 87, 3))) (zt_S (i := 87) zX_ok zeo_zm_19 zNC_ok rfl (zgood_36) (by decide +kernel) (zw_T zwd_124) (zw_T zwd_132) (zw_T zwd_133) ⟨by decide +kernel, by decide +kernel, by decide +kernel⟩ (by decide +kernel : decode (zYf 19).2.1 1 = .ok (.invokestatic 87, 3)))
theorem zf_zm_19_2 (env : List (Nat × Nat)) : zI9 19 zY_19 zm_19 env (4, 63, 3, 0, 0) 5 := zi_iload_n (by decide +kernel : decode zY_19.2.1 4 = .ok (.iload_n 3, 1)) rfl
theorem zf_zm_19_3 (env : List (Nat × Nat)) : zI9 19 zY_19 zm_19 env (5, 2, 2048, 0, 0) 8 := zi_sipush (by decide +kernel : decode zY_19.2.1 5 = .ok (.sipush 2048, 3)) (by decide +kernel)
theorem zf_zm_19_4 (env : List (Nat × Nat)) : zC9 19 zm_19 env (8, 3, 37, 130, 0) := zi_callT (by decide +kernel) (zr_S (i := 128) zX_ok rfl (zgood_37) (by decide +kernel) (zw_T zwd_124) (zw_T zwd_160) (zw_T zwd_161) ⟨by decide +kernel, by decide +kernel, by decide +kernel⟩ (by decide +kernel : decode (zYf 19).2.1 8 = .ok (.invokestatic 128, 3))) (zt_S (i := 128) zX_ok zeo_zm_19 zNC_ok rfl (zgood_37) (by decide +kernel) (zw_T zwd_124) (zw_T zwd_160) (zw_T zwd_161) ⟨by decide +kernel, by decide +kernel, by decide +kernel⟩ (by decide +kernel : decode (zYf 19).2.1 8 = .ok (.invokestatic 128, 3)))
theorem zf_zm_19_5 (env : List (Nat × Nat)) : zI9 19 zY_19 zm_19 env (11, 0, 0, 0, 0) 12 := zi_aload_n (by decide +kernel : decode zY_19.2.1 11 = .ok (.aload_n 0, 1)) rfl
theorem zf_zm_19_6 (env : List (Nat × Nat)) : zI9 19 zY_19 zm_19 env (12, 1, 0, 1, 2) 15 := zi_getf (i := 27) (N := 8) (C := "TransportPair") (ref := "TransportPair") (T := zF_0) (by decide +kernel : decode zY_19.2.1 12 = .ok (.getfield 27, 3)) rfl zuw_0 (by decide) (zw_T zwd_116) rfl
theorem zf_zm_19_7 (env : List (Nat × Nat)) : zI9 19 zY_19 zm_19 env (15, 63, 1, 0, 0) 16 := zi_iload_n (by decide +kernel : decode zY_19.2.1 15 = .ok (.iload_n 1, 1)) rfl
theorem zf_zm_19_8 (env : List (Nat × Nat)) : zI9 19 zY_19 zm_19 env (16, 19, 0, 0, 0) 17 := zi_aald zft_all (by decide +kernel : decode zY_19.2.1 16 = .ok (.aaload, 1))
theorem zf_zm_19_9 (env : List (Nat × Nat)) : zI9 19 zY_19 zm_19 env (17, 1, 10, 6, 2) 20 := zi_getf (i := 99) (N := 22) (C := "TransportPair$Side") (ref := "TransportPair$Side") (T := zF_10) (by decide +kernel : decode zY_19.2.1 17 = .ok (.getfield 99, 3)) rfl zuw_10 (by decide) (zw_T zwd_139) rfl
theorem zf_zm_19_10 (env : List (Nat × Nat)) : zI9 19 zY_19 zm_19 env (20, 63, 2, 0, 0) 21 := zi_iload_n (by decide +kernel : decode zY_19.2.1 20 = .ok (.iload_n 2, 1)) rfl
theorem zf_zm_19_11 (env : List (Nat × Nat)) : zI9 19 zY_19 zm_19 env (21, 63, 3, 0, 0) 22 := zi_iload_n (by decide +kernel : decode zY_19.2.1 21 = .ok (.iload_n 3, 1)) rfl
theorem zf_zm_19_12 (env : List (Nat × Nat)) : zI9 19 zY_19 zm_19 env (22, 0, 0, 0, 0) 23 := zi_aload_n (by decide +kernel : decode zY_19.2.1 22 = .ok (.aload_n 0, 1)) rfl
theorem zf_zm_19_13 (env : List (Nat × Nat)) : zI9 19 zY_19 zm_19 env (23, 1, 0, 4, 2) 26 := zi_getf (i := 35) (N := 8) (C := "TransportPair") (ref := "TransportPair") (T := zF_0) (by decide +kernel : decode zY_19.2.1 23 = .ok (.getfield 35, 3)) rfl zuw_0 (by decide) (zw_T zwd_118) rfl
theorem zf_zm_19_14 (env : List (Nat × Nat)) : zC9 19 zm_19 env (26, 66, 106, 262, 14) := zi_call (by decide +kernel) (zr_V (i := 139) (n := 3) (q := ("TransportPair$Streams", zF_12, 21)) zX_ok rfl (zgood_106) (by decide +kernel) (zw_T zwd_149) (zw_T zwd_168) (zw_T zwd_169) rfl (zw_T zwd_170) ⟨by decide +kernel, by decide +kernel, by decide +kernel⟩ rfl (by decide +kernel : decode (zYf 19).2.1 26 = .ok (.invokevirtual 139, 3)))
theorem zf_zm_19_15 (env : List (Nat × Nat)) : zI9 19 zY_19 zm_19 env (29, 10, 4, 0, 0) 31 := zi_istore (by decide +kernel : decode zY_19.2.1 29 = .ok (.istore 4, 2)) (by decide)
theorem zf_zm_19_16 (env : List (Nat × Nat)) : zI9 19 zY_19 zm_19 env (31, 0, 0, 0, 0) 32 := zi_aload_n (by decide +kernel : decode zY_19.2.1 31 = .ok (.aload_n 0, 1)) rfl
theorem zf_zm_19_17 (env : List (Nat × Nat)) : zI9 19 zY_19 zm_19 env (32, 63, 4, 0, 0) 34 := zi_iload (by decide +kernel : decode zY_19.2.1 32 = .ok (.iload 4, 2))
theorem zf_zm_19_18 (env : List (Nat × Nat)) : zI9 19 zY_19 zm_19 env (34, 2, 0, 0, 0) 35 := zi_iconst (by decide +kernel : decode zY_19.2.1 34 = .ok (.iconst 0, 1)) (by decide +kernel)
theorem zf_zm_19_19 (env : List (Nat × Nat)) : zI9 19 zY_19 zm_19 env (35, 57, 0, 0, 0) 38 := zi_max (i := 143) (by decide +kernel : decode zY_19.2.1 35 = .ok (.invokestatic 143, 3)) (zw_T zwd_171) (zw_T zwd_172) (zw_T zwd_173) (zw_T zwd_174)
theorem zf_zm_19_20 (env : List (Nat × Nat)) : zI9 19 zY_19 zm_19 env (38, 4, 0, 5, 0) 41 := zi_putf (i := 149) (N := 8) (C := "TransportPair") (ref := "TransportPair") (T := zF_0) (by decide +kernel : decode zY_19.2.1 38 = .ok (.putfield 149, 3)) rfl zuw_0 zFt_0 zFn_0 (by decide) (zw_T zwd_175) rfl rfl (ty := .int) (by decide +kernel) (rfl)
theorem zf_zm_19_21 (env : List (Nat × Nat)) : zI9 19 zY_19 zm_19 env (41, 63, 4, 0, 0) 43 := zi_iload (by decide +kernel : decode zY_19.2.1 41 = .ok (.iload 4, 2))
theorem zf_zm_19_22 (env : List (Nat × Nat)) : zR9 19 env (43, 11, 0, 0, 0) := zi_iret (by decide +kernel : decode (zYf 19).2.1 43 = .ok (.ireturn, 1)) rfl
set_option maxRecDepth 100000 in
theorem zc_zm_19 (env : List (Nat × Nat)) : zcode zX (z_QF zEX zcl zft) (z_zm zEX zX zWL zcl zft zYf) zYf zW zET zcl zft (zGv env) 19 zm_19 zm_19.1 := ⟨Or.inl ⟨1, zf_zm_19_0 env, zpc_c⟩,
  Or.inr (Or.inr (Or.inl ⟨zf_zm_19_1 env, zpc_c⟩)),
  Or.inl ⟨5, zf_zm_19_2 env, zpc_c⟩,
  Or.inl ⟨8, zf_zm_19_3 env, zpc_c⟩,
  Or.inr (Or.inr (Or.inl ⟨zf_zm_19_4 env, zpc_c⟩)),
  Or.inl ⟨12, zf_zm_19_5 env, zpc_c⟩,
  Or.inl ⟨15, zf_zm_19_6 env, zpc_c⟩,
  Or.inl ⟨16, zf_zm_19_7 env, zpc_c⟩,
  Or.inl ⟨17, zf_zm_19_8 env, zpc_c⟩,
  Or.inl ⟨20, zf_zm_19_9 env, zpc_c⟩,
  Or.inl ⟨21, zf_zm_19_10 env, zpc_c⟩,
  Or.inl ⟨22, zf_zm_19_11 env, zpc_c⟩,
  Or.inl ⟨23, zf_zm_19_12 env, zpc_c⟩,
  Or.inl ⟨26, zf_zm_19_13 env, zpc_c⟩,
  Or.inr (Or.inr (Or.inl ⟨zf_zm_19_14 env, zpc_c⟩)),
  Or.inl ⟨31, zf_zm_19_15 env, zpc_c⟩,
  Or.inl ⟨32, zf_zm_19_16 env, zpc_c⟩,
  Or.inl ⟨34, zf_zm_19_17 env, zpc_c⟩,
  Or.inl ⟨35, zf_zm_19_18 env, zpc_c⟩,
  Or.inl ⟨38, zf_zm_19_19 env, zpc_c⟩,
  Or.inl ⟨41, zf_zm_19_20 env, zpc_c⟩,
  Or.inl ⟨43, zf_zm_19_21 env, zpc_c⟩,
  Or.inr (Or.inl (zf_zm_19_22 env)), trivial⟩
theorem zf_zm_20_0 (env : List (Nat × Nat)) : zI9 20 zY_20 zm_20 env (0, 63, 1, 0, 0) 1 := zi_iload_n (by decide +kernel : decode zY_20.2.1 0 = .ok (.iload_n 1, 1)) rfl
theorem zf_zm_20_1 (env : List (Nat × Nat)) : zI9 20 zY_20 zm_20 env (1, 22, 6, 0, 0) 4 := zi_if_lt (off := 11) (t := 12) (by decide +kernel : decode zY_20.2.1 1 = .ok (.ifCond .lt 11, 3)) (by decide) (by decide +kernel)
theorem zf_zm_20_2 (env : List (Nat × Nat)) : zI9 20 zY_20 zm_20 env (4, 63, 1, 0, 0) 5 := zi_iload_n (by decide +kernel : decode zY_20.2.1 4 = .ok (.iload_n 1, 1)) rfl
theorem zf_zm_20_3 (env : List (Nat × Nat)) : zI9 20 zY_20 zm_20 env (5, 0, 0, 0, 0) 6 := zi_aload_n (by decide +kernel : decode zY_20.2.1 5 = .ok (.aload_n 0, 1)) rfl
theorem zf_zm_20_4 (env : List (Nat × Nat)) : zI9 20 zY_20 zm_20 env (6, 1, 0, 5, 0) 9 := zi_getf (i := 149) (N := 8) (C := "TransportPair") (ref := "TransportPair") (T := zF_0) (by decide +kernel : decode zY_20.2.1 6 = .ok (.getfield 149, 3)) rfl zuw_0 (by decide) (zw_T zwd_175) rfl
theorem zf_zm_20_5 (env : List (Nat × Nat)) : zI9 20 zY_20 zm_20 env (9, 30, 7, 0, 0) 12 := zi_icmp_lt (off := 11) (t := 20) (by decide +kernel : decode zY_20.2.1 9 = .ok (.if_icmp .lt 11, 3)) (by decide) (by decide +kernel)
theorem zf_zm_20_6 (env : List (Nat × Nat)) : zR9 20 env (12, 39, 2, 0, 0) := zi_throw (names := znames) (ik := 152) (ic := 154) zUS_ok zfit_2 znf (zw_T zwd_176) (zw_T zwd_177) (zat_of zrest_2 zwd_178) (zgd_of zrest_2) rfl (by decide) (by decide) (by decide +kernel : decode (zYf 20).2.1 12 = .ok (.new 152, 3)) (by decide +kernel : decode (zYf 20).2.1 15 = .ok (.dup, 1)) (by decide +kernel : decode (zYf 20).2.1 16 = .ok (.invokespecial 154, 3)) (by decide +kernel : decode (zYf 20).2.1 19 = .ok (.athrow, 1))
theorem zf_zm_20_7 (env : List (Nat × Nat)) : zI9 20 zY_20 zm_20 env (20, 99, 0, 0, 0) 0 := zi_none
set_option maxRecDepth 100000 in
theorem zc_zm_20 (env : List (Nat × Nat)) : zcode zX (z_QF zEX zcl zft) (z_zm zEX zX zWL zcl zft zYf) zYf zW zET zcl zft (zGv env) 20 zm_20 zm_20.1 := ⟨Or.inl ⟨1, zf_zm_20_0 env, zpc_c⟩,
  Or.inl ⟨4, zf_zm_20_1 env, zpc_c⟩,
  Or.inl ⟨5, zf_zm_20_2 env, zpc_c⟩,
  Or.inl ⟨6, zf_zm_20_3 env, zpc_c⟩,
  Or.inl ⟨9, zf_zm_20_4 env, zpc_c⟩,
  Or.inl ⟨12, zf_zm_20_5 env, zpc_c⟩,
  Or.inr (Or.inl (zf_zm_20_6 env)),
  Or.inl ⟨0, zf_zm_20_7 env, zpc_n⟩, trivial⟩
theorem zf_zm_21_0 (env : List (Nat × Nat)) : zI9 21 zY_21 zm_21 env (0, 63, 1, 0, 0) 1 := zi_iload_n (by decide +kernel : decode zY_21.2.1 0 = .ok (.iload_n 1, 1)) rfl
theorem zf_zm_21_1 (env : List (Nat × Nat)) : zC9 21 zm_21 env (1, 3, 36, 65, 0) := zi_callT (by decide +kernel) (zr_S (i := 87) zX_ok rfl (zgood_36) (by decide +kernel) (zw_T zwd_124) (zw_T zwd_132) (zw_T zwd_133) ⟨by decide +kernel, by decide +kernel, by decide +kernel⟩ (by decide +kernel : decode (zYf 21).2.1 1 = .ok (.invokestatic 87, 3))) (zt_S (i := 87) zX_ok zeo_zm_21 zNC_ok rfl (zgood_36) (by decide +kernel) (zw_T zwd_124) (zw_T zwd_132) (zw_T zwd_133) ⟨by decide +kernel, by decide +kernel, by decide +kernel⟩ (by decide +kernel : decode (zYf 21).2.1 1 = .ok (.invokestatic 87, 3)))
theorem zf_zm_21_2 (env : List (Nat × Nat)) : zI9 21 zY_21 zm_21 env (4, 63, 2, 0, 0) 5 := zi_iload_n (by decide +kernel : decode zY_21.2.1 4 = .ok (.iload_n 2, 1)) rfl
theorem zf_zm_21_3 (env : List (Nat × Nat)) : zI9 21 zY_21 zm_21 env (5, 2, 9999, 0, 0) 8 := zi_sipush (by decide +kernel : decode zY_21.2.1 5 = .ok (.sipush 9999, 3)) (by decide +kernel)
theorem zf_zm_21_4 (env : List (Nat × Nat)) : zC9 21 zm_21 env (8, 3, 37, 130, 0) := zi_callT (by decide +kernel) (zr_S (i := 128) zX_ok rfl (zgood_37) (by decide +kernel) (zw_T zwd_124) (zw_T zwd_160) (zw_T zwd_161) ⟨by decide +kernel, by decide +kernel, by decide +kernel⟩ (by decide +kernel : decode (zYf 21).2.1 8 = .ok (.invokestatic 128, 3))) (zt_S (i := 128) zX_ok zeo_zm_21 zNC_ok rfl (zgood_37) (by decide +kernel) (zw_T zwd_124) (zw_T zwd_160) (zw_T zwd_161) ⟨by decide +kernel, by decide +kernel, by decide +kernel⟩ (by decide +kernel : decode (zYf 21).2.1 8 = .ok (.invokestatic 128, 3)))
theorem zf_zm_21_5 (env : List (Nat × Nat)) : zI9 21 zY_21 zm_21 env (11, 0, 0, 0, 0) 12 := zi_aload_n (by decide +kernel : decode zY_21.2.1 11 = .ok (.aload_n 0, 1)) rfl
theorem zf_zm_21_6 (env : List (Nat × Nat)) : zI9 21 zY_21 zm_21 env (12, 1, 0, 1, 2) 15 := zi_getf (i := 27) (N := 8) (C := "TransportPair") (ref := "TransportPair") (T := zF_0) (by decide +kernel : decode zY_21.2.1 12 = .ok (.getfield 27, 3)) rfl zuw_0 (by decide) (zw_T zwd_116) rfl
theorem zf_zm_21_7 (env : List (Nat × Nat)) : zI9 21 zY_21 zm_21 env (15, 63, 1, 0, 0) 16 := zi_iload_n (by decide +kernel : decode zY_21.2.1 15 = .ok (.iload_n 1, 1)) rfl
theorem zf_zm_21_8 (env : List (Nat × Nat)) : zI9 21 zY_21 zm_21 env (16, 19, 0, 0, 0) 17 := zi_aald zft_all (by decide +kernel : decode zY_21.2.1 16 = .ok (.aaload, 1))
theorem zf_zm_21_9 (env : List (Nat × Nat)) : zI9 21 zY_21 zm_21 env (17, 63, 2, 0, 0) 18 := zi_iload_n (by decide +kernel : decode zY_21.2.1 17 = .ok (.iload_n 2, 1)) rfl
theorem zf_zm_21_10 (env : List (Nat × Nat)) : zC9 21 zm_21 env (18, 66, 94, 130, 12) := zi_call (by decide +kernel) (zr_V (i := 158) (n := 1) (q := ("TransportPair$Side", zF_10, 22)) zX_ok rfl (zgood_94) (by decide +kernel) (zw_T zwd_113) (zw_T zwd_179) (zw_T zwd_180) rfl (zw_T zwd_181) ⟨by decide +kernel, by decide +kernel, by decide +kernel⟩ rfl (by decide +kernel : decode (zYf 21).2.1 18 = .ok (.invokevirtual 158, 3)))
theorem zf_zm_21_11 (env : List (Nat × Nat)) : zR9 21 env (21, 11, 3, 0, 0) := zi_zret (by decide +kernel : decode (zYf 21).2.1 21 = .ok (.ireturn, 1)) rfl
set_option maxRecDepth 100000 in
theorem zc_zm_21 (env : List (Nat × Nat)) : zcode zX (z_QF zEX zcl zft) (z_zm zEX zX zWL zcl zft zYf) zYf zW zET zcl zft (zGv env) 21 zm_21 zm_21.1 := ⟨Or.inl ⟨1, zf_zm_21_0 env, zpc_c⟩,
  Or.inr (Or.inr (Or.inl ⟨zf_zm_21_1 env, zpc_c⟩)),
  Or.inl ⟨5, zf_zm_21_2 env, zpc_c⟩,
  Or.inl ⟨8, zf_zm_21_3 env, zpc_c⟩,
  Or.inr (Or.inr (Or.inl ⟨zf_zm_21_4 env, zpc_c⟩)),
  Or.inl ⟨12, zf_zm_21_5 env, zpc_c⟩,
  Or.inl ⟨15, zf_zm_21_6 env, zpc_c⟩,
  Or.inl ⟨16, zf_zm_21_7 env, zpc_c⟩,
  Or.inl ⟨17, zf_zm_21_8 env, zpc_c⟩,
  Or.inl ⟨18, zf_zm_21_9 env, zpc_c⟩,
  Or.inr (Or.inr (Or.inl ⟨zf_zm_21_10 env, zpc_c⟩)),
  Or.inr (Or.inl (zf_zm_21_11 env)), trivial⟩
theorem zf_zm_22_0 (env : List (Nat × Nat)) : zI9 22 zY_22 zm_22 env (0, 63, 1, 0, 0) 1 := zi_iload_n (by decide +kernel : decode zY_22.2.1 0 = .ok (.iload_n 1, 1)) rfl
theorem zf_zm_22_1 (env : List (Nat × Nat)) : zC9 22 zm_22 env (1, 3, 36, 65, 0) := zi_callT (by decide +kernel) (zr_S (i := 87) zX_ok rfl (zgood_36) (by decide +kernel) (zw_T zwd_124) (zw_T zwd_132) (zw_T zwd_133) ⟨by decide +kernel, by decide +kernel, by decide +kernel⟩ (by decide +kernel : decode (zYf 22).2.1 1 = .ok (.invokestatic 87, 3))) (zt_S (i := 87) zX_ok zeo_zm_22 zNC_ok rfl (zgood_36) (by decide +kernel) (zw_T zwd_124) (zw_T zwd_132) (zw_T zwd_133) ⟨by decide +kernel, by decide +kernel, by decide +kernel⟩ (by decide +kernel : decode (zYf 22).2.1 1 = .ok (.invokestatic 87, 3)))
theorem zf_zm_22_2 (env : List (Nat × Nat)) : zI9 22 zY_22 zm_22 env (4, 0, 0, 0, 0) 5 := zi_aload_n (by decide +kernel : decode zY_22.2.1 4 = .ok (.aload_n 0, 1)) rfl
theorem zf_zm_22_3 (env : List (Nat × Nat)) : zI9 22 zY_22 zm_22 env (5, 1, 0, 3, 0) 8 := zi_getf (i := 38) (N := 8) (C := "TransportPair") (ref := "TransportPair") (T := zF_0) (by decide +kernel : decode zY_22.2.1 5 = .ok (.getfield 38, 3)) rfl zuw_0 (by decide) (zw_T zwd_119) rfl
theorem zf_zm_22_4 (env : List (Nat × Nat)) : zI9 22 zY_22 zm_22 env (8, 2, 1, 0, 0) 9 := zi_iconst (by decide +kernel : decode zY_22.2.1 8 = .ok (.iconst 1, 1)) (by decide +kernel)
theorem zf_zm_22_5 (env : List (Nat × Nat)) : zI9 22 zY_22 zm_22 env (9, 30, 7, 0, 0) 12 := zi_icmp_lt (off := 13) (t := 22) (by decide +kernel : decode zY_22.2.1 9 = .ok (.if_icmp .lt 13, 3)) (by decide) (by decide +kernel)
theorem zf_zm_22_6 (env : List (Nat × Nat)) : zI9 22 zY_22 zm_22 env (12, 99, 0, 0, 0) 22 := zi_none
theorem zf_zm_22_7 (env : List (Nat × Nat)) : zR9 22 env (22, 39, 1, 0, 0) := zi_throw (names := znames) (ik := 56) (ic := 58) zUS_ok zfit_1 znf (zw_T zwd_127) (zw_T zwd_128) (zat_of zrest_1 zwd_129) (zgd_of zrest_1) rfl (by decide) (by decide) (by decide +kernel : decode (zYf 22).2.1 22 = .ok (.new 56, 3)) (by decide +kernel : decode (zYf 22).2.1 25 = .ok (.dup, 1)) (by decide +kernel : decode (zYf 22).2.1 26 = .ok (.invokespecial 58, 3)) (by decide +kernel : decode (zYf 22).2.1 29 = .ok (.athrow, 1))
theorem zf_zm_22_8 (env : List (Nat × Nat)) : zI9 22 zY_22 zm_22 env (30, 99, 0, 0, 0) 0 := zi_none
set_option maxRecDepth 100000 in
theorem zc_zm_22 (env : List (Nat × Nat)) : zcode zX (z_QF zEX zcl zft) (z_zm zEX zX zWL zcl zft zYf) zYf zW zET zcl zft (zGv env) 22 zm_22 zm_22.1 := ⟨Or.inl ⟨1, zf_zm_22_0 env, zpc_c⟩,
  Or.inr (Or.inr (Or.inl ⟨zf_zm_22_1 env, zpc_c⟩)),
  Or.inl ⟨5, zf_zm_22_2 env, zpc_c⟩,
  Or.inl ⟨8, zf_zm_22_3 env, zpc_c⟩,
  Or.inl ⟨9, zf_zm_22_4 env, zpc_c⟩,
  Or.inl ⟨12, zf_zm_22_5 env, zpc_c⟩,
  Or.inl ⟨22, zf_zm_22_6 env, zpc_c⟩,
  Or.inr (Or.inl (zf_zm_22_7 env)),
  Or.inl ⟨0, zf_zm_22_8 env, zpc_n⟩, trivial⟩
theorem zf_zm_23_0 (env : List (Nat × Nat)) : zI9 23 zY_23 zm_23 env (0, 0, 0, 0, 0) 1 := zi_aload_n (by decide +kernel : decode zY_23.2.1 0 = .ok (.aload_n 0, 1)) rfl
theorem zf_zm_23_1 (env : List (Nat × Nat)) : zI9 23 zY_23 zm_23 env (1, 63, 1, 0, 0) 2 := zi_iload_n (by decide +kernel : decode zY_23.2.1 1 = .ok (.iload_n 1, 1)) rfl
theorem zf_zm_23_2 (env : List (Nat × Nat)) : zI9 23 zY_23 zm_23 env (2, 63, 2, 0, 0) 3 := zi_iload_n (by decide +kernel : decode zY_23.2.1 2 = .ok (.iload_n 2, 1)) rfl
theorem zf_zm_23_3 (env : List (Nat × Nat)) : zC9 23 zm_23 env (3, 3, 40, 195, 2) := zi_callT (by decide +kernel) (zr_V (i := 176) (n := 2) (q := ("TransportPair", zF_0, 8)) zX_ok rfl (zgood_40) (by decide +kernel) (zw_T zwd_124) (zw_T zwd_182) (zw_T zwd_183) rfl (zw_T (zt_sel (y := ⟨"TransportPair","checkDatagram","(II)V"⟩) (n := 8) 18 (by decide +kernel))) ⟨by decide +kernel, by decide +kernel, by decide +kernel⟩ rfl (by decide +kernel : decode (zYf 23).2.1 3 = .ok (.invokevirtual 176, 3))) (zt_V (i := 176) (n := 2) (q := ("TransportPair", zF_0, 8)) zX_ok zeo_zm_23 zNC_ok rfl (zgood_40) (by decide +kernel) (zw_T zwd_124) (zw_T zwd_182) (zw_T zwd_183) rfl (zw_T (zt_sel (y := ⟨"TransportPair","checkDatagram","(II)V"⟩) (n := 8) 18 (by decide +kernel))) ⟨by decide +kernel, by decide +kernel, by decide +kernel⟩ rfl (by decide +kernel : decode (zYf 23).2.1 3 = .ok (.invokevirtual 176, 3)))
theorem zf_zm_23_4 (env : List (Nat × Nat)) : zI9 23 zY_23 zm_23 env (6, 99, 0, 0, 0) 0 := zi_none
set_option maxRecDepth 100000 in
theorem zc_zm_23 (env : List (Nat × Nat)) : zcode zX (z_QF zEX zcl zft) (z_zm zEX zX zWL zcl zft zYf) zYf zW zET zcl zft (zGv env) 23 zm_23 zm_23.1 := ⟨Or.inl ⟨1, zf_zm_23_0 env, zpc_c⟩,
  Or.inl ⟨2, zf_zm_23_1 env, zpc_c⟩,
  Or.inl ⟨3, zf_zm_23_2 env, zpc_c⟩,
  Or.inr (Or.inr (Or.inl ⟨zf_zm_23_3 env, zpc_c⟩)),
  Or.inl ⟨0, zf_zm_23_4 env, zpc_n⟩, trivial⟩
theorem zf_zm_24_0 (env : List (Nat × Nat)) : zI9 24 zY_24 zm_24 env (0, 0, 0, 0, 0) 1 := zi_aload_n (by decide +kernel : decode zY_24.2.1 0 = .ok (.aload_n 0, 1)) rfl
theorem zf_zm_24_1 (env : List (Nat × Nat)) : zI9 24 zY_24 zm_24 env (1, 63, 1, 0, 0) 2 := zi_iload_n (by decide +kernel : decode zY_24.2.1 1 = .ok (.iload_n 1, 1)) rfl
theorem zf_zm_24_2 (env : List (Nat × Nat)) : zI9 24 zY_24 zm_24 env (2, 63, 2, 0, 0) 3 := zi_iload_n (by decide +kernel : decode zY_24.2.1 2 = .ok (.iload_n 2, 1)) rfl
theorem zf_zm_24_3 (env : List (Nat × Nat)) : zC9 24 zm_24 env (3, 3, 40, 195, 2) := zi_callT (by decide +kernel) (zr_V (i := 176) (n := 2) (q := ("TransportPair", zF_0, 8)) zX_ok rfl (zgood_40) (by decide +kernel) (zw_T zwd_124) (zw_T zwd_182) (zw_T zwd_183) rfl (zw_T (zt_sel (y := ⟨"TransportPair","checkDatagram","(II)V"⟩) (n := 8) 18 (by decide +kernel))) ⟨by decide +kernel, by decide +kernel, by decide +kernel⟩ rfl (by decide +kernel : decode (zYf 24).2.1 3 = .ok (.invokevirtual 176, 3))) (zt_V (i := 176) (n := 2) (q := ("TransportPair", zF_0, 8)) zX_ok zeo_zm_24 zNC_ok rfl (zgood_40) (by decide +kernel) (zw_T zwd_124) (zw_T zwd_182) (zw_T zwd_183) rfl (zw_T (zt_sel (y := ⟨"TransportPair","checkDatagram","(II)V"⟩) (n := 8) 18 (by decide +kernel))) ⟨by decide +kernel, by decide +kernel, by decide +kernel⟩ rfl (by decide +kernel : decode (zYf 24).2.1 3 = .ok (.invokevirtual 176, 3)))
theorem zf_zm_24_4 (env : List (Nat × Nat)) : zI9 24 zY_24 zm_24 env (6, 99, 0, 0, 0) 0 := zi_none
set_option maxRecDepth 100000 in
theorem zc_zm_24 (env : List (Nat × Nat)) : zcode zX (z_QF zEX zcl zft) (z_zm zEX zX zWL zcl zft zYf) zYf zW zET zcl zft (zGv env) 24 zm_24 zm_24.1 := ⟨Or.inl ⟨1, zf_zm_24_0 env, zpc_c⟩,
  Or.inl ⟨2, zf_zm_24_1 env, zpc_c⟩,
  Or.inl ⟨3, zf_zm_24_2 env, zpc_c⟩,
  Or.inr (Or.inr (Or.inl ⟨zf_zm_24_3 env, zpc_c⟩)),
  Or.inl ⟨0, zf_zm_24_4 env, zpc_n⟩, trivial⟩
theorem zf_zm_25_0 (env : List (Nat × Nat)) : zI9 25 zY_25 zm_25 env (0, 0, 0, 0, 0) 1 := zi_aload_n (by decide +kernel : decode zY_25.2.1 0 = .ok (.aload_n 0, 1)) rfl
theorem zf_zm_25_1 (env : List (Nat × Nat)) : zI9 25 zY_25 zm_25 env (1, 63, 1, 0, 0) 2 := zi_iload_n (by decide +kernel : decode zY_25.2.1 1 = .ok (.iload_n 1, 1)) rfl
theorem zf_zm_25_2 (env : List (Nat × Nat)) : zI9 25 zY_25 zm_25 env (2, 63, 2, 0, 0) 3 := zi_iload_n (by decide +kernel : decode zY_25.2.1 2 = .ok (.iload_n 2, 1)) rfl
theorem zf_zm_25_3 (env : List (Nat × Nat)) : zC9 25 zm_25 env (3, 3, 40, 195, 2) := zi_callT (by decide +kernel) (zr_V (i := 176) (n := 2) (q := ("TransportPair", zF_0, 8)) zX_ok rfl (zgood_40) (by decide +kernel) (zw_T zwd_124) (zw_T zwd_182) (zw_T zwd_183) rfl (zw_T (zt_sel (y := ⟨"TransportPair","checkDatagram","(II)V"⟩) (n := 8) 18 (by decide +kernel))) ⟨by decide +kernel, by decide +kernel, by decide +kernel⟩ rfl (by decide +kernel : decode (zYf 25).2.1 3 = .ok (.invokevirtual 176, 3))) (zt_V (i := 176) (n := 2) (q := ("TransportPair", zF_0, 8)) zX_ok zeo_zm_25 zNC_ok rfl (zgood_40) (by decide +kernel) (zw_T zwd_124) (zw_T zwd_182) (zw_T zwd_183) rfl (zw_T (zt_sel (y := ⟨"TransportPair","checkDatagram","(II)V"⟩) (n := 8) 18 (by decide +kernel))) ⟨by decide +kernel, by decide +kernel, by decide +kernel⟩ rfl (by decide +kernel : decode (zYf 25).2.1 3 = .ok (.invokevirtual 176, 3)))
theorem zf_zm_25_4 (env : List (Nat × Nat)) : zI9 25 zY_25 zm_25 env (6, 99, 0, 0, 0) 0 := zi_none
set_option maxRecDepth 100000 in
theorem zc_zm_25 (env : List (Nat × Nat)) : zcode zX (z_QF zEX zcl zft) (z_zm zEX zX zWL zcl zft zYf) zYf zW zET zcl zft (zGv env) 25 zm_25 zm_25.1 := ⟨Or.inl ⟨1, zf_zm_25_0 env, zpc_c⟩,
  Or.inl ⟨2, zf_zm_25_1 env, zpc_c⟩,
  Or.inl ⟨3, zf_zm_25_2 env, zpc_c⟩,
  Or.inr (Or.inr (Or.inl ⟨zf_zm_25_3 env, zpc_c⟩)),
  Or.inl ⟨0, zf_zm_25_4 env, zpc_n⟩, trivial⟩
theorem zf_zm_26_0 (env : List (Nat × Nat)) : zI9 26 zY_26 zm_26 env (0, 0, 0, 0, 0) 1 := zi_aload_n (by decide +kernel : decode zY_26.2.1 0 = .ok (.aload_n 0, 1)) rfl
theorem zf_zm_26_1 (env : List (Nat × Nat)) : zI9 26 zY_26 zm_26 env (1, 63, 1, 0, 0) 2 := zi_iload_n (by decide +kernel : decode zY_26.2.1 1 = .ok (.iload_n 1, 1)) rfl
theorem zf_zm_26_2 (env : List (Nat × Nat)) : zI9 26 zY_26 zm_26 env (2, 63, 2, 0, 0) 3 := zi_iload_n (by decide +kernel : decode zY_26.2.1 2 = .ok (.iload_n 2, 1)) rfl
theorem zf_zm_26_3 (env : List (Nat × Nat)) : zC9 26 zm_26 env (3, 3, 40, 195, 2) := zi_callT (by decide +kernel) (zr_V (i := 176) (n := 2) (q := ("TransportPair", zF_0, 8)) zX_ok rfl (zgood_40) (by decide +kernel) (zw_T zwd_124) (zw_T zwd_182) (zw_T zwd_183) rfl (zw_T (zt_sel (y := ⟨"TransportPair","checkDatagram","(II)V"⟩) (n := 8) 18 (by decide +kernel))) ⟨by decide +kernel, by decide +kernel, by decide +kernel⟩ rfl (by decide +kernel : decode (zYf 26).2.1 3 = .ok (.invokevirtual 176, 3))) (zt_V (i := 176) (n := 2) (q := ("TransportPair", zF_0, 8)) zX_ok zeo_zm_26 zNC_ok rfl (zgood_40) (by decide +kernel) (zw_T zwd_124) (zw_T zwd_182) (zw_T zwd_183) rfl (zw_T (zt_sel (y := ⟨"TransportPair","checkDatagram","(II)V"⟩) (n := 8) 18 (by decide +kernel))) ⟨by decide +kernel, by decide +kernel, by decide +kernel⟩ rfl (by decide +kernel : decode (zYf 26).2.1 3 = .ok (.invokevirtual 176, 3)))
theorem zf_zm_26_4 (env : List (Nat × Nat)) : zI9 26 zY_26 zm_26 env (6, 99, 0, 0, 0) 0 := zi_none
set_option maxRecDepth 100000 in
theorem zc_zm_26 (env : List (Nat × Nat)) : zcode zX (z_QF zEX zcl zft) (z_zm zEX zX zWL zcl zft zYf) zYf zW zET zcl zft (zGv env) 26 zm_26 zm_26.1 := ⟨Or.inl ⟨1, zf_zm_26_0 env, zpc_c⟩,
  Or.inl ⟨2, zf_zm_26_1 env, zpc_c⟩,
  Or.inl ⟨3, zf_zm_26_2 env, zpc_c⟩,
  Or.inr (Or.inr (Or.inl ⟨zf_zm_26_3 env, zpc_c⟩)),
  Or.inl ⟨0, zf_zm_26_4 env, zpc_n⟩, trivial⟩
theorem zf_zm_27_0 (env : List (Nat × Nat)) : zI9 27 zY_27 zm_27 env (0, 63, 1, 0, 0) 1 := zi_iload_n (by decide +kernel : decode zY_27.2.1 0 = .ok (.iload_n 1, 1)) rfl
theorem zf_zm_27_1 (env : List (Nat × Nat)) : zI9 27 zY_27 zm_27 env (1, 2, 1000, 0, 0) 4 := zi_sipush (by decide +kernel : decode zY_27.2.1 1 = .ok (.sipush 1000, 3)) (by decide +kernel)
theorem zf_zm_27_2 (env : List (Nat × Nat)) : zC9 27 zm_27 env (4, 3, 37, 130, 0) := zi_callT (by decide +kernel) (zr_S (i := 128) zX_ok rfl (zgood_37) (by decide +kernel) (zw_T zwd_124) (zw_T zwd_160) (zw_T zwd_161) ⟨by decide +kernel, by decide +kernel, by decide +kernel⟩ (by decide +kernel : decode (zYf 27).2.1 4 = .ok (.invokestatic 128, 3))) (zt_S (i := 128) zX_ok zeo_zm_27 zNC_ok rfl (zgood_37) (by decide +kernel) (zw_T zwd_124) (zw_T zwd_160) (zw_T zwd_161) ⟨by decide +kernel, by decide +kernel, by decide +kernel⟩ (by decide +kernel : decode (zYf 27).2.1 4 = .ok (.invokestatic 128, 3)))
theorem zf_zm_27_3 (env : List (Nat × Nat)) : zI9 27 zY_27 zm_27 env (7, 0, 0, 0, 0) 8 := zi_aload_n (by decide +kernel : decode zY_27.2.1 7 = .ok (.aload_n 0, 1)) rfl
theorem zf_zm_27_4 (env : List (Nat × Nat)) : zI9 27 zY_27 zm_27 env (8, 63, 1, 0, 0) 9 := zi_iload_n (by decide +kernel : decode zY_27.2.1 8 = .ok (.iload_n 1, 1)) rfl
theorem zf_zm_27_5 (env : List (Nat × Nat)) : zI9 27 zY_27 zm_27 env (9, 4, 0, 7, 0) 12 := zi_putf (i := 210) (N := 8) (C := "TransportPair") (ref := "TransportPair") (T := zF_0) (by decide +kernel : decode zY_27.2.1 9 = .ok (.putfield 210, 3)) rfl zuw_0 zFt_0 zFn_0 (by decide) (zw_T zwd_184) rfl rfl (ty := .int) (by decide +kernel) (rfl)
theorem zf_zm_27_6 (env : List (Nat × Nat)) : zR9 27 env (12, 21, 0, 0, 0) := zi_vret (by decide +kernel : decode (zYf 27).2.1 12 = .ok (.return_, 1)) rfl
set_option maxRecDepth 100000 in
theorem zc_zm_27 (env : List (Nat × Nat)) : zcode zX (z_QF zEX zcl zft) (z_zm zEX zX zWL zcl zft zYf) zYf zW zET zcl zft (zGv env) 27 zm_27 zm_27.1 := ⟨Or.inl ⟨1, zf_zm_27_0 env, zpc_c⟩,
  Or.inl ⟨4, zf_zm_27_1 env, zpc_c⟩,
  Or.inr (Or.inr (Or.inl ⟨zf_zm_27_2 env, zpc_c⟩)),
  Or.inl ⟨8, zf_zm_27_3 env, zpc_c⟩,
  Or.inl ⟨9, zf_zm_27_4 env, zpc_c⟩,
  Or.inl ⟨12, zf_zm_27_5 env, zpc_c⟩,
  Or.inr (Or.inl (zf_zm_27_6 env)), trivial⟩
theorem zf_zm_28_0 (env : List (Nat × Nat)) : zI9 28 zY_28 zm_28 env (0, 63, 1, 0, 0) 1 := zi_iload_n (by decide +kernel : decode zY_28.2.1 0 = .ok (.iload_n 1, 1)) rfl
theorem zf_zm_28_1 (env : List (Nat × Nat)) : zC9 28 zm_28 env (1, 3, 36, 65, 0) := zi_callT (by decide +kernel) (zr_S (i := 87) zX_ok rfl (zgood_36) (by decide +kernel) (zw_T zwd_124) (zw_T zwd_132) (zw_T zwd_133) ⟨by decide +kernel, by decide +kernel, by decide +kernel⟩ (by decide +kernel : decode (zYf 28).2.1 1 = .ok (.invokestatic 87, 3))) (zt_S (i := 87) zX_ok zeo_zm_28 zNC_ok rfl (zgood_36) (by decide +kernel) (zw_T zwd_124) (zw_T zwd_132) (zw_T zwd_133) ⟨by decide +kernel, by decide +kernel, by decide +kernel⟩ (by decide +kernel : decode (zYf 28).2.1 1 = .ok (.invokestatic 87, 3)))
theorem zf_zm_28_2 (env : List (Nat × Nat)) : zI9 28 zY_28 zm_28 env (4, 63, 2, 0, 0) 5 := zi_iload_n (by decide +kernel : decode zY_28.2.1 4 = .ok (.iload_n 2, 1)) rfl
theorem zf_zm_28_3 (env : List (Nat × Nat)) : zI9 28 zY_28 zm_28 env (5, 2, 2, 0, 0) 6 := zi_iconst (by decide +kernel : decode zY_28.2.1 5 = .ok (.iconst 2, 1)) (by decide +kernel)
theorem zf_zm_28_4 (env : List (Nat × Nat)) : zC9 28 zm_28 env (6, 3, 37, 130, 0) := zi_callT (by decide +kernel) (zr_S (i := 128) zX_ok rfl (zgood_37) (by decide +kernel) (zw_T zwd_124) (zw_T zwd_160) (zw_T zwd_161) ⟨by decide +kernel, by decide +kernel, by decide +kernel⟩ (by decide +kernel : decode (zYf 28).2.1 6 = .ok (.invokestatic 128, 3))) (zt_S (i := 128) zX_ok zeo_zm_28 zNC_ok rfl (zgood_37) (by decide +kernel) (zw_T zwd_124) (zw_T zwd_160) (zw_T zwd_161) ⟨by decide +kernel, by decide +kernel, by decide +kernel⟩ (by decide +kernel : decode (zYf 28).2.1 6 = .ok (.invokestatic 128, 3)))
theorem zf_zm_28_5 (env : List (Nat × Nat)) : zI9 28 zY_28 zm_28 env (9, 0, 0, 0, 0) 10 := zi_aload_n (by decide +kernel : decode zY_28.2.1 9 = .ok (.aload_n 0, 1)) rfl
theorem zf_zm_28_6 (env : List (Nat × Nat)) : zI9 28 zY_28 zm_28 env (10, 1, 0, 0, 2) 13 := zi_getf (i := 16) (N := 8) (C := "TransportPair") (ref := "TransportPair") (T := zF_0) (by decide +kernel : decode zY_28.2.1 10 = .ok (.getfield 16, 3)) rfl zuw_0 (by decide) (zw_T zwd_109) rfl
theorem zf_zm_28_7 (env : List (Nat × Nat)) : zI9 28 zY_28 zm_28 env (13, 63, 1, 0, 0) 14 := zi_iload_n (by decide +kernel : decode zY_28.2.1 13 = .ok (.iload_n 1, 1)) rfl
theorem zf_zm_28_8 (env : List (Nat × Nat)) : zI9 28 zY_28 zm_28 env (14, 19, 0, 0, 0) 15 := zi_aald zft_all (by decide +kernel : decode zY_28.2.1 14 = .ok (.aaload, 1))
theorem zf_zm_28_9 (env : List (Nat × Nat)) : zI9 28 zY_28 zm_28 env (15, 65, 3, 0, 0) 16 := zi_astore_n (by decide +kernel : decode zY_28.2.1 15 = .ok (.astore_n 3, 1)) rfl (by decide)
theorem zf_zm_28_10 (env : List (Nat × Nat)) : zI9 28 zY_28 zm_28 env (16, 63, 2, 0, 0) 17 := zi_iload_n (by decide +kernel : decode zY_28.2.1 16 = .ok (.iload_n 2, 1)) rfl
theorem zf_zm_28_11 (env : List (Nat × Nat)) : zI9 28 zY_28 zm_28 env (17, 6, 15, 0, 0) 20 := zi_if_ne (off := 10) (t := 27) (by decide +kernel : decode zY_28.2.1 17 = .ok (.ifCond .ne 10, 3)) (by decide) (by decide +kernel)
theorem zf_zm_28_12 (env : List (Nat × Nat)) : zI9 28 zY_28 zm_28 env (20, 0, 3, 0, 0) 21 := zi_aload_n (by decide +kernel : decode zY_28.2.1 20 = .ok (.aload_n 3, 1)) rfl
theorem zf_zm_28_13 (env : List (Nat × Nat)) : zI9 28 zY_28 zm_28 env (21, 1, 4, 4, 0) 24 := zi_getf (i := 203) (N := 7) (C := "TransportPair$Line") (ref := "TransportPair$Line") (T := zF_4) (by decide +kernel : decode zY_28.2.1 21 = .ok (.getfield 203, 3)) rfl zuw_4 (by decide) (zw_T zwd_185) rfl
theorem zf_zm_28_14 (env : List (Nat × Nat)) : zI9 28 zY_28 zm_28 env (24, 7, 23, 0, 0) 27 := zi_goto (off := 19) (t := 43) (by decide +kernel : decode zY_28.2.1 24 = .ok (.goto 19, 3)) (by decide) (by decide +kernel)
theorem zf_zm_28_15 (env : List (Nat × Nat)) : zI9 28 zY_28 zm_28 env (27, 63, 2, 0, 0) 28 := zi_iload_n (by decide +kernel : decode zY_28.2.1 27 = .ok (.iload_n 2, 1)) rfl
theorem zf_zm_28_16 (env : List (Nat × Nat)) : zI9 28 zY_28 zm_28 env (28, 2, 1, 0, 0) 29 := zi_iconst (by decide +kernel : decode zY_28.2.1 28 = .ok (.iconst 1, 1)) (by decide +kernel)
theorem zf_zm_28_17 (env : List (Nat × Nat)) : zI9 28 zY_28 zm_28 env (29, 29, 21, 0, 0) 32 := zi_icmp_ne (off := 10) (t := 39) (by decide +kernel : decode zY_28.2.1 29 = .ok (.if_icmp .ne 10, 3)) (by decide) (by decide +kernel)
theorem zf_zm_28_18 (env : List (Nat × Nat)) : zI9 28 zY_28 zm_28 env (32, 0, 3, 0, 0) 33 := zi_aload_n (by decide +kernel : decode zY_28.2.1 32 = .ok (.aload_n 3, 1)) rfl
theorem zf_zm_28_19 (env : List (Nat × Nat)) : zI9 28 zY_28 zm_28 env (33, 1, 4, 5, 0) 36 := zi_getf (i := 223) (N := 7) (C := "TransportPair$Line") (ref := "TransportPair$Line") (T := zF_4) (by decide +kernel : decode zY_28.2.1 33 = .ok (.getfield 223, 3)) rfl zuw_4 (by decide) (zw_T zwd_186) rfl
theorem zf_zm_28_20 (env : List (Nat × Nat)) : zI9 28 zY_28 zm_28 env (36, 7, 23, 0, 0) 39 := zi_goto (off := 7) (t := 43) (by decide +kernel : decode zY_28.2.1 36 = .ok (.goto 7, 3)) (by decide) (by decide +kernel)
theorem zf_zm_28_21 (env : List (Nat × Nat)) : zI9 28 zY_28 zm_28 env (39, 0, 3, 0, 0) 40 := zi_aload_n (by decide +kernel : decode zY_28.2.1 39 = .ok (.aload_n 3, 1)) rfl
theorem zf_zm_28_22 (env : List (Nat × Nat)) : zI9 28 zY_28 zm_28 env (40, 1, 4, 6, 0) 43 := zi_getf (i := 226) (N := 7) (C := "TransportPair$Line") (ref := "TransportPair$Line") (T := zF_4) (by decide +kernel : decode zY_28.2.1 40 = .ok (.getfield 226, 3)) rfl zuw_4 (by decide) (zw_T zwd_187) rfl
theorem zf_zm_28_23 (env : List (Nat × Nat)) : zR9 28 env (43, 11, 0, 0, 0) := zi_iret (by decide +kernel : decode (zYf 28).2.1 43 = .ok (.ireturn, 1)) rfl
set_option maxRecDepth 100000 in
theorem zc_zm_28 (env : List (Nat × Nat)) : zcode zX (z_QF zEX zcl zft) (z_zm zEX zX zWL zcl zft zYf) zYf zW zET zcl zft (zGv env) 28 zm_28 zm_28.1 := ⟨Or.inl ⟨1, zf_zm_28_0 env, zpc_c⟩,
  Or.inr (Or.inr (Or.inl ⟨zf_zm_28_1 env, zpc_c⟩)),
  Or.inl ⟨5, zf_zm_28_2 env, zpc_c⟩,
  Or.inl ⟨6, zf_zm_28_3 env, zpc_c⟩,
  Or.inr (Or.inr (Or.inl ⟨zf_zm_28_4 env, zpc_c⟩)),
  Or.inl ⟨10, zf_zm_28_5 env, zpc_c⟩,
  Or.inl ⟨13, zf_zm_28_6 env, zpc_c⟩,
  Or.inl ⟨14, zf_zm_28_7 env, zpc_c⟩,
  Or.inl ⟨15, zf_zm_28_8 env, zpc_c⟩,
  Or.inl ⟨16, zf_zm_28_9 env, zpc_c⟩,
  Or.inl ⟨17, zf_zm_28_10 env, zpc_c⟩,
  Or.inl ⟨20, zf_zm_28_11 env, zpc_c⟩,
  Or.inl ⟨21, zf_zm_28_12 env, zpc_c⟩,
  Or.inl ⟨24, zf_zm_28_13 env, zpc_c⟩,
  Or.inl ⟨27, zf_zm_28_14 env, zpc_c⟩,
  Or.inl ⟨28, zf_zm_28_15 env, zpc_c⟩,
  Or.inl ⟨29, zf_zm_28_16 env, zpc_c⟩,
  Or.inl ⟨32, zf_zm_28_17 env, zpc_c⟩,
  Or.inl ⟨33, zf_zm_28_18 env, zpc_c⟩,
  Or.inl ⟨36, zf_zm_28_19 env, zpc_c⟩,
  Or.inl ⟨39, zf_zm_28_20 env, zpc_c⟩,
  Or.inl ⟨40, zf_zm_28_21 env, zpc_c⟩,
  Or.inl ⟨43, zf_zm_28_22 env, zpc_c⟩,
  Or.inr (Or.inl (zf_zm_28_23 env)), trivial⟩
theorem zf_zm_29_0 (env : List (Nat × Nat)) : zI9 29 zY_29 zm_29 env (0, 0, 0, 0, 0) 1 := zi_aload_n (by decide +kernel : decode zY_29.2.1 0 = .ok (.aload_n 0, 1)) rfl
theorem zf_zm_29_1 (env : List (Nat × Nat)) : zI9 29 zY_29 zm_29 env (1, 63, 1, 0, 0) 2 := zi_iload_n (by decide +kernel : decode zY_29.2.1 1 = .ok (.iload_n 1, 1)) rfl
theorem zf_zm_29_2 (env : List (Nat × Nat)) : zI9 29 zY_29 zm_29 env (2, 63, 2, 0, 0) 3 := zi_iload_n (by decide +kernel : decode zY_29.2.1 2 = .ok (.iload_n 2, 1)) rfl
theorem zf_zm_29_3 (env : List (Nat × Nat)) : zC9 29 zm_29 env (3, 3, 40, 195, 2) := zi_callT (by decide +kernel) (zr_V (i := 176) (n := 2) (q := ("TransportPair", zF_0, 8)) zX_ok rfl (zgood_40) (by decide +kernel) (zw_T zwd_124) (zw_T zwd_182) (zw_T zwd_183) rfl (zw_T (zt_sel (y := ⟨"TransportPair","checkDatagram","(II)V"⟩) (n := 8) 18 (by decide +kernel))) ⟨by decide +kernel, by decide +kernel, by decide +kernel⟩ rfl (by decide +kernel : decode (zYf 29).2.1 3 = .ok (.invokevirtual 176, 3))) (zt_V (i := 176) (n := 2) (q := ("TransportPair", zF_0, 8)) zX_ok zeo_zm_29 zNC_ok rfl (zgood_40) (by decide +kernel) (zw_T zwd_124) (zw_T zwd_182) (zw_T zwd_183) rfl (zw_T (zt_sel (y := ⟨"TransportPair","checkDatagram","(II)V"⟩) (n := 8) 18 (by decide +kernel))) ⟨by decide +kernel, by decide +kernel, by decide +kernel⟩ rfl (by decide +kernel : decode (zYf 29).2.1 3 = .ok (.invokevirtual 176, 3)))
theorem zf_zm_29_4 (env : List (Nat × Nat)) : zI9 29 zY_29 zm_29 env (6, 99, 0, 0, 0) 0 := zi_none
set_option maxRecDepth 100000 in
theorem zc_zm_29 (env : List (Nat × Nat)) : zcode zX (z_QF zEX zcl zft) (z_zm zEX zX zWL zcl zft zYf) zYf zW zET zcl zft (zGv env) 29 zm_29 zm_29.1 := ⟨Or.inl ⟨1, zf_zm_29_0 env, zpc_c⟩,
  Or.inl ⟨2, zf_zm_29_1 env, zpc_c⟩,
  Or.inl ⟨3, zf_zm_29_2 env, zpc_c⟩,
  Or.inr (Or.inr (Or.inl ⟨zf_zm_29_3 env, zpc_c⟩)),
  Or.inl ⟨0, zf_zm_29_4 env, zpc_n⟩, trivial⟩
theorem zf_zm_30_0 (env : List (Nat × Nat)) : zI9 30 zY_30 zm_30 env (0, 63, 1, 0, 0) 1 := zi_iload_n (by decide +kernel : decode zY_30.2.1 0 = .ok (.iload_n 1, 1)) rfl
theorem zf_zm_30_1 (env : List (Nat × Nat)) : zC9 30 zm_30 env (1, 3, 36, 65, 0) := zi_callT (by decide +kernel) (zr_S (i := 87) zX_ok rfl (zgood_36) (by decide +kernel) (zw_T zwd_124) (zw_T zwd_132) (zw_T zwd_133) ⟨by decide +kernel, by decide +kernel, by decide +kernel⟩ (by decide +kernel : decode (zYf 30).2.1 1 = .ok (.invokestatic 87, 3))) (zt_S (i := 87) zX_ok zeo_zm_30 zNC_ok rfl (zgood_36) (by decide +kernel) (zw_T zwd_124) (zw_T zwd_132) (zw_T zwd_133) ⟨by decide +kernel, by decide +kernel, by decide +kernel⟩ (by decide +kernel : decode (zYf 30).2.1 1 = .ok (.invokestatic 87, 3)))
theorem zf_zm_30_2 (env : List (Nat × Nat)) : zI9 30 zY_30 zm_30 env (4, 63, 2, 0, 0) 5 := zi_iload_n (by decide +kernel : decode zY_30.2.1 4 = .ok (.iload_n 2, 1)) rfl
theorem zf_zm_30_3 (env : List (Nat × Nat)) : zI9 30 zY_30 zm_30 env (5, 2, 9, 0, 0) 7 := zi_bipush (by decide +kernel : decode zY_30.2.1 5 = .ok (.bipush 9, 2)) (by decide +kernel)
theorem zf_zm_30_4 (env : List (Nat × Nat)) : zC9 30 zm_30 env (7, 3, 37, 130, 0) := zi_callT (by decide +kernel) (zr_S (i := 128) zX_ok rfl (zgood_37) (by decide +kernel) (zw_T zwd_124) (zw_T zwd_160) (zw_T zwd_161) ⟨by decide +kernel, by decide +kernel, by decide +kernel⟩ (by decide +kernel : decode (zYf 30).2.1 7 = .ok (.invokestatic 128, 3))) (zt_S (i := 128) zX_ok zeo_zm_30 zNC_ok rfl (zgood_37) (by decide +kernel) (zw_T zwd_124) (zw_T zwd_160) (zw_T zwd_161) ⟨by decide +kernel, by decide +kernel, by decide +kernel⟩ (by decide +kernel : decode (zYf 30).2.1 7 = .ok (.invokestatic 128, 3)))
theorem zf_zm_30_5 (env : List (Nat × Nat)) : zI9 30 zY_30 zm_30 env (10, 0, 0, 0, 0) 11 := zi_aload_n (by decide +kernel : decode zY_30.2.1 10 = .ok (.aload_n 0, 1)) rfl
theorem zf_zm_30_6 (env : List (Nat × Nat)) : zI9 30 zY_30 zm_30 env (11, 1, 0, 1, 2) 14 := zi_getf (i := 27) (N := 8) (C := "TransportPair") (ref := "TransportPair") (T := zF_0) (by decide +kernel : decode zY_30.2.1 11 = .ok (.getfield 27, 3)) rfl zuw_0 (by decide) (zw_T zwd_116) rfl
theorem zf_zm_30_7 (env : List (Nat × Nat)) : zI9 30 zY_30 zm_30 env (14, 63, 1, 0, 0) 15 := zi_iload_n (by decide +kernel : decode zY_30.2.1 14 = .ok (.iload_n 1, 1)) rfl
theorem zf_zm_30_8 (env : List (Nat × Nat)) : zI9 30 zY_30 zm_30 env (15, 19, 0, 0, 0) 16 := zi_aald zft_all (by decide +kernel : decode zY_30.2.1 15 = .ok (.aaload, 1))
theorem zf_zm_30_9 (env : List (Nat × Nat)) : zI9 30 zY_30 zm_30 env (16, 63, 2, 0, 0) 17 := zi_iload_n (by decide +kernel : decode zY_30.2.1 16 = .ok (.iload_n 2, 1)) rfl
theorem zf_zm_30_10 (env : List (Nat × Nat)) : zC9 30 zm_30 env (17, 66, 92, 130, 12) := zi_call (by decide +kernel) (zr_V (i := 229) (n := 1) (q := ("TransportPair$Side", zF_10, 22)) zX_ok rfl (zgood_92) (by decide +kernel) (zw_T zwd_113) (zw_T zwd_188) (zw_T zwd_189) rfl (zw_T zwd_190) ⟨by decide +kernel, by decide +kernel, by decide +kernel⟩ rfl (by decide +kernel : decode (zYf 30).2.1 17 = .ok (.invokevirtual 229, 3)))
theorem zf_zm_30_11 (env : List (Nat × Nat)) : zR9 30 env (20, 11, 0, 0, 0) := zi_iret (by decide +kernel : decode (zYf 30).2.1 20 = .ok (.ireturn, 1)) rfl
set_option maxRecDepth 100000 in
theorem zc_zm_30 (env : List (Nat × Nat)) : zcode zX (z_QF zEX zcl zft) (z_zm zEX zX zWL zcl zft zYf) zYf zW zET zcl zft (zGv env) 30 zm_30 zm_30.1 := ⟨Or.inl ⟨1, zf_zm_30_0 env, zpc_c⟩,
  Or.inr (Or.inr (Or.inl ⟨zf_zm_30_1 env, zpc_c⟩)),
  Or.inl ⟨5, zf_zm_30_2 env, zpc_c⟩,
  Or.inl ⟨7, zf_zm_30_3 env, zpc_c⟩,
  Or.inr (Or.inr (Or.inl ⟨zf_zm_30_4 env, zpc_c⟩)),
  Or.inl ⟨11, zf_zm_30_5 env, zpc_c⟩,
  Or.inl ⟨14, zf_zm_30_6 env, zpc_c⟩,
  Or.inl ⟨15, zf_zm_30_7 env, zpc_c⟩,
  Or.inl ⟨16, zf_zm_30_8 env, zpc_c⟩,
  Or.inl ⟨17, zf_zm_30_9 env, zpc_c⟩,
  Or.inr (Or.inr (Or.inl ⟨zf_zm_30_10 env, zpc_c⟩)),
  Or.inr (Or.inl (zf_zm_30_11 env)), trivial⟩
theorem zf_zm_31_0 (env : List (Nat × Nat)) : zI9 31 zY_31 zm_31 env (0, 63, 1, 0, 0) 1 := zi_iload_n (by decide +kernel : decode zY_31.2.1 0 = .ok (.iload_n 1, 1)) rfl
theorem zf_zm_31_1 (env : List (Nat × Nat)) : zC9 31 zm_31 env (1, 3, 36, 65, 0) := zi_callT (by decide +kernel) (zr_S (i := 87) zX_ok rfl (zgood_36) (by decide +kernel) (zw_T zwd_124) (zw_T zwd_132) (zw_T zwd_133) ⟨by decide +kernel, by decide +kernel, by decide +kernel⟩ (by decide +kernel : decode (zYf 31).2.1 1 = .ok (.invokestatic 87, 3))) (zt_S (i := 87) zX_ok zeo_zm_31 zNC_ok rfl (zgood_36) (by decide +kernel) (zw_T zwd_124) (zw_T zwd_132) (zw_T zwd_133) ⟨by decide +kernel, by decide +kernel, by decide +kernel⟩ (by decide +kernel : decode (zYf 31).2.1 1 = .ok (.invokestatic 87, 3)))
theorem zf_zm_31_2 (env : List (Nat × Nat)) : zI9 31 zY_31 zm_31 env (4, 63, 2, 0, 0) 5 := zi_iload_n (by decide +kernel : decode zY_31.2.1 4 = .ok (.iload_n 2, 1)) rfl
theorem zf_zm_31_3 (env : List (Nat × Nat)) : zI9 31 zY_31 zm_31 env (5, 2, 10, 0, 0) 7 := zi_bipush (by decide +kernel : decode zY_31.2.1 5 = .ok (.bipush 10, 2)) (by decide +kernel)
theorem zf_zm_31_4 (env : List (Nat × Nat)) : zC9 31 zm_31 env (7, 3, 37, 130, 0) := zi_callT (by decide +kernel) (zr_S (i := 128) zX_ok rfl (zgood_37) (by decide +kernel) (zw_T zwd_124) (zw_T zwd_160) (zw_T zwd_161) ⟨by decide +kernel, by decide +kernel, by decide +kernel⟩ (by decide +kernel : decode (zYf 31).2.1 7 = .ok (.invokestatic 128, 3))) (zt_S (i := 128) zX_ok zeo_zm_31 zNC_ok rfl (zgood_37) (by decide +kernel) (zw_T zwd_124) (zw_T zwd_160) (zw_T zwd_161) ⟨by decide +kernel, by decide +kernel, by decide +kernel⟩ (by decide +kernel : decode (zYf 31).2.1 7 = .ok (.invokestatic 128, 3)))
theorem zf_zm_31_5 (env : List (Nat × Nat)) : zI9 31 zY_31 zm_31 env (10, 0, 0, 0, 0) 11 := zi_aload_n (by decide +kernel : decode zY_31.2.1 10 = .ok (.aload_n 0, 1)) rfl
theorem zf_zm_31_6 (env : List (Nat × Nat)) : zI9 31 zY_31 zm_31 env (11, 1, 0, 1, 2) 14 := zi_getf (i := 27) (N := 8) (C := "TransportPair") (ref := "TransportPair") (T := zF_0) (by decide +kernel : decode zY_31.2.1 11 = .ok (.getfield 27, 3)) rfl zuw_0 (by decide) (zw_T zwd_116) rfl
theorem zf_zm_31_7 (env : List (Nat × Nat)) : zI9 31 zY_31 zm_31 env (14, 63, 1, 0, 0) 15 := zi_iload_n (by decide +kernel : decode zY_31.2.1 14 = .ok (.iload_n 1, 1)) rfl
theorem zf_zm_31_8 (env : List (Nat × Nat)) : zI9 31 zY_31 zm_31 env (15, 19, 0, 0, 0) 16 := zi_aald zft_all (by decide +kernel : decode zY_31.2.1 15 = .ok (.aaload, 1))
theorem zf_zm_31_9 (env : List (Nat × Nat)) : zI9 31 zY_31 zm_31 env (16, 1, 10, 5, 2) 19 := zi_getf (i := 232) (N := 22) (C := "TransportPair$Side") (ref := "TransportPair$Side") (T := zF_10) (by decide +kernel : decode zY_31.2.1 16 = .ok (.getfield 232, 3)) rfl zuw_10 (by decide) (zw_T zwd_191) rfl
theorem zf_zm_31_10 (env : List (Nat × Nat)) : zI9 31 zY_31 zm_31 env (19, 63, 2, 0, 0) 20 := zi_iload_n (by decide +kernel : decode zY_31.2.1 19 = .ok (.iload_n 2, 1)) rfl
theorem zf_zm_31_11 (env : List (Nat × Nat)) : zC9 31 zm_31 env (20, 66, 76, 130, 4) := zi_call (by decide +kernel) (zr_V (i := 236) (n := 1) (q := ("TransportPair$Book", zF_2, 20)) zX_ok rfl (zgood_76) (by decide +kernel) (zw_T zwd_192) (zw_T zwd_193) (zw_T zwd_194) rfl (zw_T zwd_195) ⟨by decide +kernel, by decide +kernel, by decide +kernel⟩ rfl (by decide +kernel : decode (zYf 31).2.1 20 = .ok (.invokevirtual 236, 3)))
theorem zf_zm_31_12 (env : List (Nat × Nat)) : zR9 31 env (23, 11, 0, 0, 0) := zi_iret (by decide +kernel : decode (zYf 31).2.1 23 = .ok (.ireturn, 1)) rfl
set_option maxRecDepth 100000 in
theorem zc_zm_31 (env : List (Nat × Nat)) : zcode zX (z_QF zEX zcl zft) (z_zm zEX zX zWL zcl zft zYf) zYf zW zET zcl zft (zGv env) 31 zm_31 zm_31.1 := ⟨Or.inl ⟨1, zf_zm_31_0 env, zpc_c⟩,
  Or.inr (Or.inr (Or.inl ⟨zf_zm_31_1 env, zpc_c⟩)),
  Or.inl ⟨5, zf_zm_31_2 env, zpc_c⟩,
  Or.inl ⟨7, zf_zm_31_3 env, zpc_c⟩,
  Or.inr (Or.inr (Or.inl ⟨zf_zm_31_4 env, zpc_c⟩)),
  Or.inl ⟨11, zf_zm_31_5 env, zpc_c⟩,
  Or.inl ⟨14, zf_zm_31_6 env, zpc_c⟩,
  Or.inl ⟨15, zf_zm_31_7 env, zpc_c⟩,
  Or.inl ⟨16, zf_zm_31_8 env, zpc_c⟩,
  Or.inl ⟨19, zf_zm_31_9 env, zpc_c⟩,
  Or.inl ⟨20, zf_zm_31_10 env, zpc_c⟩,
  Or.inr (Or.inr (Or.inl ⟨zf_zm_31_11 env, zpc_c⟩)),
  Or.inr (Or.inl (zf_zm_31_12 env)), trivial⟩
theorem zf_zm_32_0 (env : List (Nat × Nat)) : zI9 32 zY_32 zm_32 env (0, 63, 1, 0, 0) 1 := zi_iload_n (by decide +kernel : decode zY_32.2.1 0 = .ok (.iload_n 1, 1)) rfl
theorem zf_zm_32_1 (env : List (Nat × Nat)) : zC9 32 zm_32 env (1, 3, 36, 65, 0) := zi_callT (by decide +kernel) (zr_S (i := 87) zX_ok rfl (zgood_36) (by decide +kernel) (zw_T zwd_124) (zw_T zwd_132) (zw_T zwd_133) ⟨by decide +kernel, by decide +kernel, by decide +kernel⟩ (by decide +kernel : decode (zYf 32).2.1 1 = .ok (.invokestatic 87, 3))) (zt_S (i := 87) zX_ok zeo_zm_32 zNC_ok rfl (zgood_36) (by decide +kernel) (zw_T zwd_124) (zw_T zwd_132) (zw_T zwd_133) ⟨by decide +kernel, by decide +kernel, by decide +kernel⟩ (by decide +kernel : decode (zYf 32).2.1 1 = .ok (.invokestatic 87, 3)))
theorem zf_zm_32_2 (env : List (Nat × Nat)) : zI9 32 zY_32 zm_32 env (4, 63, 2, 0, 0) 5 := zi_iload_n (by decide +kernel : decode zY_32.2.1 4 = .ok (.iload_n 2, 1)) rfl
theorem zf_zm_32_3 (env : List (Nat × Nat)) : zI9 32 zY_32 zm_32 env (5, 2, 2, 0, 0) 6 := zi_iconst (by decide +kernel : decode zY_32.2.1 5 = .ok (.iconst 2, 1)) (by decide +kernel)
theorem zf_zm_32_4 (env : List (Nat × Nat)) : zC9 32 zm_32 env (6, 3, 37, 130, 0) := zi_callT (by decide +kernel) (zr_S (i := 128) zX_ok rfl (zgood_37) (by decide +kernel) (zw_T zwd_124) (zw_T zwd_160) (zw_T zwd_161) ⟨by decide +kernel, by decide +kernel, by decide +kernel⟩ (by decide +kernel : decode (zYf 32).2.1 6 = .ok (.invokestatic 128, 3))) (zt_S (i := 128) zX_ok zeo_zm_32 zNC_ok rfl (zgood_37) (by decide +kernel) (zw_T zwd_124) (zw_T zwd_160) (zw_T zwd_161) ⟨by decide +kernel, by decide +kernel, by decide +kernel⟩ (by decide +kernel : decode (zYf 32).2.1 6 = .ok (.invokestatic 128, 3)))
theorem zf_zm_32_5 (env : List (Nat × Nat)) : zI9 32 zY_32 zm_32 env (9, 63, 3, 0, 0) 10 := zi_iload_n (by decide +kernel : decode zY_32.2.1 9 = .ok (.iload_n 3, 1)) rfl
theorem zf_zm_32_6 (env : List (Nat × Nat)) : zI9 32 zY_32 zm_32 env (10, 2, 11, 0, 0) 12 := zi_bipush (by decide +kernel : decode zY_32.2.1 10 = .ok (.bipush 11, 2)) (by decide +kernel)
theorem zf_zm_32_7 (env : List (Nat × Nat)) : zC9 32 zm_32 env (12, 3, 37, 130, 0) := zi_callT (by decide +kernel) (zr_S (i := 128) zX_ok rfl (zgood_37) (by decide +kernel) (zw_T zwd_124) (zw_T zwd_160) (zw_T zwd_161) ⟨by decide +kernel, by decide +kernel, by decide +kernel⟩ (by decide +kernel : decode (zYf 32).2.1 12 = .ok (.invokestatic 128, 3))) (zt_S (i := 128) zX_ok zeo_zm_32 zNC_ok rfl (zgood_37) (by decide +kernel) (zw_T zwd_124) (zw_T zwd_160) (zw_T zwd_161) ⟨by decide +kernel, by decide +kernel, by decide +kernel⟩ (by decide +kernel : decode (zYf 32).2.1 12 = .ok (.invokestatic 128, 3)))
theorem zf_zm_32_8 (env : List (Nat × Nat)) : zI9 32 zY_32 zm_32 env (15, 0, 0, 0, 0) 16 := zi_aload_n (by decide +kernel : decode zY_32.2.1 15 = .ok (.aload_n 0, 1)) rfl
theorem zf_zm_32_9 (env : List (Nat × Nat)) : zI9 32 zY_32 zm_32 env (16, 1, 0, 1, 2) 19 := zi_getf (i := 27) (N := 8) (C := "TransportPair") (ref := "TransportPair") (T := zF_0) (by decide +kernel : decode zY_32.2.1 16 = .ok (.getfield 27, 3)) rfl zuw_0 (by decide) (zw_T zwd_116) rfl
theorem zf_zm_32_10 (env : List (Nat × Nat)) : zI9 32 zY_32 zm_32 env (19, 63, 1, 0, 0) 20 := zi_iload_n (by decide +kernel : decode zY_32.2.1 19 = .ok (.iload_n 1, 1)) rfl
theorem zf_zm_32_11 (env : List (Nat × Nat)) : zI9 32 zY_32 zm_32 env (20, 19, 0, 0, 0) 21 := zi_aald zft_all (by decide +kernel : decode zY_32.2.1 20 = .ok (.aaload, 1))
theorem zf_zm_32_12 (env : List (Nat × Nat)) : zI9 32 zY_32 zm_32 env (21, 1, 10, 5, 2) 24 := zi_getf (i := 232) (N := 22) (C := "TransportPair$Side") (ref := "TransportPair$Side") (T := zF_10) (by decide +kernel : decode zY_32.2.1 21 = .ok (.getfield 232, 3)) rfl zuw_10 (by decide) (zw_T zwd_191) rfl
theorem zf_zm_32_13 (env : List (Nat × Nat)) : zI9 32 zY_32 zm_32 env (24, 63, 2, 0, 0) 25 := zi_iload_n (by decide +kernel : decode zY_32.2.1 24 = .ok (.iload_n 2, 1)) rfl
theorem zf_zm_32_14 (env : List (Nat × Nat)) : zI9 32 zY_32 zm_32 env (25, 63, 3, 0, 0) 26 := zi_iload_n (by decide +kernel : decode zY_32.2.1 25 = .ok (.iload_n 3, 1)) rfl
theorem zf_zm_32_15 (env : List (Nat × Nat)) : zC9 32 zm_32 env (26, 66, 77, 196, 4) := zi_call (by decide +kernel) (zr_V (i := 239) (n := 2) (q := ("TransportPair$Book", zF_2, 20)) zX_ok rfl (zgood_77) (by decide +kernel) (zw_T zwd_192) (zw_T zwd_196) (zw_T zwd_197) rfl (zw_T zwd_198) ⟨by decide +kernel, by decide +kernel, by decide +kernel⟩ rfl (by decide +kernel : decode (zYf 32).2.1 26 = .ok (.invokevirtual 239, 3)))
theorem zf_zm_32_16 (env : List (Nat × Nat)) : zR9 32 env (29, 11, 1, 0, 0) := zi_lret (by decide +kernel : decode (zYf 32).2.1 29 = .ok (.lreturn, 1)) rfl
set_option maxRecDepth 100000 in
theorem zc_zm_32 (env : List (Nat × Nat)) : zcode zX (z_QF zEX zcl zft) (z_zm zEX zX zWL zcl zft zYf) zYf zW zET zcl zft (zGv env) 32 zm_32 zm_32.1 := ⟨Or.inl ⟨1, zf_zm_32_0 env, zpc_c⟩,
  Or.inr (Or.inr (Or.inl ⟨zf_zm_32_1 env, zpc_c⟩)),
  Or.inl ⟨5, zf_zm_32_2 env, zpc_c⟩,
  Or.inl ⟨6, zf_zm_32_3 env, zpc_c⟩,
  Or.inr (Or.inr (Or.inl ⟨zf_zm_32_4 env, zpc_c⟩)),
  Or.inl ⟨10, zf_zm_32_5 env, zpc_c⟩,
  Or.inl ⟨12, zf_zm_32_6 env, zpc_c⟩,
  Or.inr (Or.inr (Or.inl ⟨zf_zm_32_7 env, zpc_c⟩)),
  Or.inl ⟨16, zf_zm_32_8 env, zpc_c⟩,
  Or.inl ⟨19, zf_zm_32_9 env, zpc_c⟩,
  Or.inl ⟨20, zf_zm_32_10 env, zpc_c⟩,
  Or.inl ⟨21, zf_zm_32_11 env, zpc_c⟩,
  Or.inl ⟨24, zf_zm_32_12 env, zpc_c⟩,
  Or.inl ⟨25, zf_zm_32_13 env, zpc_c⟩,
  Or.inl ⟨26, zf_zm_32_14 env, zpc_c⟩,
  Or.inr (Or.inr (Or.inl ⟨zf_zm_32_15 env, zpc_c⟩)),
  Or.inr (Or.inl (zf_zm_32_16 env)), trivial⟩
theorem zf_zm_33_0 (env : List (Nat × Nat)) : zI9 33 zY_33 zm_33 env (0, 63, 1, 0, 0) 1 := zi_iload_n (by decide +kernel : decode zY_33.2.1 0 = .ok (.iload_n 1, 1)) rfl
theorem zf_zm_33_1 (env : List (Nat × Nat)) : zC9 33 zm_33 env (1, 3, 36, 65, 0) := zi_callT (by decide +kernel) (zr_S (i := 87) zX_ok rfl (zgood_36) (by decide +kernel) (zw_T zwd_124) (zw_T zwd_132) (zw_T zwd_133) ⟨by decide +kernel, by decide +kernel, by decide +kernel⟩ (by decide +kernel : decode (zYf 33).2.1 1 = .ok (.invokestatic 87, 3))) (zt_S (i := 87) zX_ok zeo_zm_33 zNC_ok rfl (zgood_36) (by decide +kernel) (zw_T zwd_124) (zw_T zwd_132) (zw_T zwd_133) ⟨by decide +kernel, by decide +kernel, by decide +kernel⟩ (by decide +kernel : decode (zYf 33).2.1 1 = .ok (.invokestatic 87, 3)))
theorem zf_zm_33_2 (env : List (Nat × Nat)) : zI9 33 zY_33 zm_33 env (4, 63, 3, 0, 0) 5 := zi_iload_n (by decide +kernel : decode zY_33.2.1 4 = .ok (.iload_n 3, 1)) rfl
theorem zf_zm_33_3 (env : List (Nat × Nat)) : zI9 33 zY_33 zm_33 env (5, 2, 14, 0, 0) 7 := zi_bipush (by decide +kernel : decode zY_33.2.1 5 = .ok (.bipush 14, 2)) (by decide +kernel)
theorem zf_zm_33_4 (env : List (Nat × Nat)) : zC9 33 zm_33 env (7, 3, 37, 130, 0) := zi_callT (by decide +kernel) (zr_S (i := 128) zX_ok rfl (zgood_37) (by decide +kernel) (zw_T zwd_124) (zw_T zwd_160) (zw_T zwd_161) ⟨by decide +kernel, by decide +kernel, by decide +kernel⟩ (by decide +kernel : decode (zYf 33).2.1 7 = .ok (.invokestatic 128, 3))) (zt_S (i := 128) zX_ok zeo_zm_33 zNC_ok rfl (zgood_37) (by decide +kernel) (zw_T zwd_124) (zw_T zwd_160) (zw_T zwd_161) ⟨by decide +kernel, by decide +kernel, by decide +kernel⟩ (by decide +kernel : decode (zYf 33).2.1 7 = .ok (.invokestatic 128, 3)))
theorem zf_zm_33_5 (env : List (Nat × Nat)) : zI9 33 zY_33 zm_33 env (10, 0, 0, 0, 0) 11 := zi_aload_n (by decide +kernel : decode zY_33.2.1 10 = .ok (.aload_n 0, 1)) rfl
theorem zf_zm_33_6 (env : List (Nat × Nat)) : zI9 33 zY_33 zm_33 env (11, 1, 0, 1, 2) 14 := zi_getf (i := 27) (N := 8) (C := "TransportPair") (ref := "TransportPair") (T := zF_0) (by decide +kernel : decode zY_33.2.1 11 = .ok (.getfield 27, 3)) rfl zuw_0 (by decide) (zw_T zwd_116) rfl
theorem zf_zm_33_7 (env : List (Nat × Nat)) : zI9 33 zY_33 zm_33 env (14, 63, 1, 0, 0) 15 := zi_iload_n (by decide +kernel : decode zY_33.2.1 14 = .ok (.iload_n 1, 1)) rfl
theorem zf_zm_33_8 (env : List (Nat × Nat)) : zI9 33 zY_33 zm_33 env (15, 19, 0, 0, 0) 16 := zi_aald zft_all (by decide +kernel : decode zY_33.2.1 15 = .ok (.aaload, 1))
theorem zf_zm_33_9 (env : List (Nat × Nat)) : zI9 33 zY_33 zm_33 env (16, 1, 10, 6, 2) 19 := zi_getf (i := 99) (N := 22) (C := "TransportPair$Side") (ref := "TransportPair$Side") (T := zF_10) (by decide +kernel : decode zY_33.2.1 16 = .ok (.getfield 99, 3)) rfl zuw_10 (by decide) (zw_T zwd_139) rfl
theorem zf_zm_33_10 (env : List (Nat × Nat)) : zI9 33 zY_33 zm_33 env (19, 65, 4, 0, 0) 21 := zi_astore (by decide +kernel : decode zY_33.2.1 19 = .ok (.astore 4, 2)) (by decide)
theorem zf_zm_33_11 (env : List (Nat × Nat)) : zI9 33 zY_33 zm_33 env (21, 63, 3, 0, 0) 22 := zi_iload_n (by decide +kernel : decode zY_33.2.1 21 = .ok (.iload_n 3, 1)) rfl
theorem zf_zm_33_12 (env : List (Nat × Nat)) : zI9 33 zY_33 zm_33 env (22, 2, 8, 0, 0) 24 := zi_bipush (by decide +kernel : decode zY_33.2.1 22 = .ok (.bipush 8, 2)) (by decide +kernel)
theorem zf_zm_33_13 (env : List (Nat × Nat)) : zI9 33 zY_33 zm_33 env (24, 28, 24, 0, 0) 27 := zi_icmp_ge (off := 29) (t := 53) (by decide +kernel : decode zY_33.2.1 24 = .ok (.if_icmp .ge 29, 3)) (by decide) (by decide +kernel)
theorem zf_zm_33_14 (env : List (Nat × Nat)) : zI9 33 zY_33 zm_33 env (27, 0, 4, 0, 0) 29 := zi_aload (by decide +kernel : decode zY_33.2.1 27 = .ok (.aload 4, 2))
theorem zf_zm_33_15 (env : List (Nat × Nat)) : zI9 33 zY_33 zm_33 env (29, 63, 2, 0, 0) 30 := zi_iload_n (by decide +kernel : decode zY_33.2.1 29 = .ok (.iload_n 2, 1)) rfl
theorem zf_zm_33_16 (env : List (Nat × Nat)) : zC9 33 zm_33 env (30, 66, 99, 130, 14) := zi_call (by decide +kernel) (zr_V (i := 243) (n := 1) (q := ("TransportPair$Streams", zF_12, 21)) zX_ok rfl (zgood_99) (by decide +kernel) (zw_T zwd_149) (zw_T zwd_199) (zw_T zwd_200) rfl (zw_T zwd_201) ⟨by decide +kernel, by decide +kernel, by decide +kernel⟩ rfl (by decide +kernel : decode (zYf 33).2.1 30 = .ok (.invokevirtual 243, 3)))
theorem zf_zm_33_17 (env : List (Nat × Nat)) : zI9 33 zY_33 zm_33 env (33, 65, 5, 0, 0) 35 := zi_astore (by decide +kernel : decode zY_33.2.1 33 = .ok (.astore 5, 2)) (by decide)
theorem zf_zm_33_18 (env : List (Nat × Nat)) : zI9 33 zY_33 zm_33 env (35, 0, 5, 0, 0) 37 := zi_aload (by decide +kernel : decode zY_33.2.1 35 = .ok (.aload 5, 2))
theorem zf_zm_33_19 (env : List (Nat × Nat)) : zI9 33 zY_33 zm_33 env (37, 44, 22, 0, 0) 40 := zi_ifnonnull (off := 9) (t := 46) (by decide +kernel : decode zY_33.2.1 37 = .ok (.ifnonnull 9, 3)) (by decide) (by decide +kernel)
theorem zf_zm_33_20 (env : List (Nat × Nat)) : zI9 33 zY_33 zm_33 env (40, 15, 18446744073709551615, 0, 0) 43 := zi_ldc2 (v := (-1)) (by decide +kernel : decode zY_33.2.1 40 = .ok (.ldc2_w 247, 3)) (by decide +kernel) (zw_T zwd_202)
theorem zf_zm_33_21 (env : List (Nat × Nat)) : zI9 33 zY_33 zm_33 env (43, 7, 23, 0, 0) 46 := zi_goto (off := 9) (t := 52) (by decide +kernel : decode zY_33.2.1 43 = .ok (.goto 9, 3)) (by decide) (by decide +kernel)
theorem zf_zm_33_22 (env : List (Nat × Nat)) : zI9 33 zY_33 zm_33 env (46, 99, 0, 0, 0) 52 := zi_none
theorem zf_zm_33_23 (env : List (Nat × Nat)) : zR9 33 env (52, 11, 1, 0, 0) := zi_lret (by decide +kernel : decode (zYf 33).2.1 52 = .ok (.lreturn, 1)) rfl
theorem zf_zm_33_24 (env : List (Nat × Nat)) : zI9 33 zY_33 zm_33 env (53, 0, 4, 0, 0) 55 := zi_aload (by decide +kernel : decode zY_33.2.1 53 = .ok (.aload 4, 2))
theorem zf_zm_33_25 (env : List (Nat × Nat)) : zI9 33 zY_33 zm_33 env (55, 63, 2, 0, 0) 56 := zi_iload_n (by decide +kernel : decode zY_33.2.1 55 = .ok (.iload_n 2, 1)) rfl
theorem zf_zm_33_26 (env : List (Nat × Nat)) : zC9 33 zm_33 env (56, 66, 100, 130, 14) := zi_call (by decide +kernel) (zr_V (i := 252) (n := 1) (q := ("TransportPair$Streams", zF_12, 21)) zX_ok rfl (zgood_100) (by decide +kernel) (zw_T zwd_149) (zw_T zwd_203) (zw_T zwd_204) rfl (zw_T zwd_205) ⟨by decide +kernel, by decide +kernel, by decide +kernel⟩ rfl (by decide +kernel : decode (zYf 33).2.1 56 = .ok (.invokevirtual 252, 3)))
theorem zf_zm_33_27 (env : List (Nat × Nat)) : zI9 33 zY_33 zm_33 env (59, 65, 5, 0, 0) 61 := zi_astore (by decide +kernel : decode zY_33.2.1 59 = .ok (.astore 5, 2)) (by decide)
theorem zf_zm_33_28 (env : List (Nat × Nat)) : zI9 33 zY_33 zm_33 env (61, 0, 5, 0, 0) 63 := zi_aload (by decide +kernel : decode zY_33.2.1 61 = .ok (.aload 5, 2))
theorem zf_zm_33_29 (env : List (Nat × Nat)) : zI9 33 zY_33 zm_33 env (63, 44, 32, 0, 0) 66 := zi_ifnonnull (off := 9) (t := 72) (by decide +kernel : decode zY_33.2.1 63 = .ok (.ifnonnull 9, 3)) (by decide) (by decide +kernel)
theorem zf_zm_33_30 (env : List (Nat × Nat)) : zI9 33 zY_33 zm_33 env (66, 15, 18446744073709551615, 0, 0) 69 := zi_ldc2 (v := (-1)) (by decide +kernel : decode zY_33.2.1 66 = .ok (.ldc2_w 247, 3)) (by decide +kernel) (zw_T zwd_202)
theorem zf_zm_33_31 (env : List (Nat × Nat)) : zI9 33 zY_33 zm_33 env (69, 7, 33, 0, 0) 72 := zi_goto (off := 9) (t := 78) (by decide +kernel : decode zY_33.2.1 69 = .ok (.goto 9, 3)) (by decide) (by decide +kernel)
theorem zf_zm_33_32 (env : List (Nat × Nat)) : zI9 33 zY_33 zm_33 env (72, 99, 0, 0, 0) 78 := zi_none
theorem zf_zm_33_33 (env : List (Nat × Nat)) : zR9 33 env (78, 11, 1, 0, 0) := zi_lret (by decide +kernel : decode (zYf 33).2.1 78 = .ok (.lreturn, 1)) rfl
set_option maxRecDepth 100000 in
theorem zc_zm_33 (env : List (Nat × Nat)) : zcode zX (z_QF zEX zcl zft) (z_zm zEX zX zWL zcl zft zYf) zYf zW zET zcl zft (zGv env) 33 zm_33 zm_33.1 := ⟨Or.inl ⟨1, zf_zm_33_0 env, zpc_c⟩,
  Or.inr (Or.inr (Or.inl ⟨zf_zm_33_1 env, zpc_c⟩)),
  Or.inl ⟨5, zf_zm_33_2 env, zpc_c⟩,
  Or.inl ⟨7, zf_zm_33_3 env, zpc_c⟩,
  Or.inr (Or.inr (Or.inl ⟨zf_zm_33_4 env, zpc_c⟩)),
  Or.inl ⟨11, zf_zm_33_5 env, zpc_c⟩,
  Or.inl ⟨14, zf_zm_33_6 env, zpc_c⟩,
  Or.inl ⟨15, zf_zm_33_7 env, zpc_c⟩,
  Or.inl ⟨16, zf_zm_33_8 env, zpc_c⟩,
  Or.inl ⟨19, zf_zm_33_9 env, zpc_c⟩,
  Or.inl ⟨21, zf_zm_33_10 env, zpc_c⟩,
  Or.inl ⟨22, zf_zm_33_11 env, zpc_c⟩,
  Or.inl ⟨24, zf_zm_33_12 env, zpc_c⟩,
  Or.inl ⟨27, zf_zm_33_13 env, zpc_c⟩,
  Or.inl ⟨29, zf_zm_33_14 env, zpc_c⟩,
  Or.inl ⟨30, zf_zm_33_15 env, zpc_c⟩,
  Or.inr (Or.inr (Or.inl ⟨zf_zm_33_16 env, zpc_c⟩)),
  Or.inl ⟨35, zf_zm_33_17 env, zpc_c⟩,
  Or.inl ⟨37, zf_zm_33_18 env, zpc_c⟩,
  Or.inl ⟨40, zf_zm_33_19 env, zpc_c⟩,
  Or.inl ⟨43, zf_zm_33_20 env, zpc_c⟩,
  Or.inl ⟨46, zf_zm_33_21 env, zpc_c⟩,
  Or.inl ⟨52, zf_zm_33_22 env, zpc_c⟩,
  Or.inr (Or.inl (zf_zm_33_23 env)),
  Or.inl ⟨55, zf_zm_33_24 env, zpc_c⟩,
  Or.inl ⟨56, zf_zm_33_25 env, zpc_c⟩,
  Or.inr (Or.inr (Or.inl ⟨zf_zm_33_26 env, zpc_c⟩)),
  Or.inl ⟨61, zf_zm_33_27 env, zpc_c⟩,
  Or.inl ⟨63, zf_zm_33_28 env, zpc_c⟩,
  Or.inl ⟨66, zf_zm_33_29 env, zpc_c⟩,
  Or.inl ⟨69, zf_zm_33_30 env, zpc_c⟩,
  Or.inl ⟨72, zf_zm_33_31 env, zpc_c⟩,
  Or.inl ⟨78, zf_zm_33_32 env, zpc_c⟩,
  Or.inr (Or.inl (zf_zm_33_33 env)), trivial⟩
