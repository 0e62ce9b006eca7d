/-! FACTS (by program) -/
theorem zf_zm_5_0 (env : List (Nat × Nat)) : zI9 5 zY_5 zm_5 env (0, 0, 0, 0, 0) 1 := zi_aload_n (by decide +kernel : decode zY_5.2.1 0 = .ok (.aload_n 0, 1)) rfl
theorem zf_zm_5_1 (env : List (Nat × Nat)) : zI9 5 zY_5 zm_5 env (1, 60, 0, 0, 0) 4 := zi_obj (i := 1) (by decide +kernel : decode zY_5.2.1 1 = .ok (.invokespecial 1, 3)) (zw_T zwd_10) (zw_T zwd_11) (zw_T zwd_12)
theorem zf_zm_5_2 (env : List (Nat × Nat)) : zI9 5 zY_5 zm_5 env (4, 0, 0, 0, 0) 5 := zi_aload_n (by decide +kernel : decode zY_5.2.1 4 = .ok (.aload_n 0, 1)) rfl
theorem zf_zm_5_3 (env : List (Nat × Nat)) : zI9 5 zY_5 zm_5 env (5, 2, 8, 0, 0) 7 := zi_bipush (by decide +kernel : decode zY_5.2.1 5 = .ok (.bipush 8, 2)) (by decide +kernel)
theorem zf_zm_5_4 (env : List (Nat × Nat)) : zI9 5 zY_5 zm_5 env (7, 12, 1, 3, 0) 9 := zi_newL (by decide +kernel : decode zY_5.2.1 7 = .ok (.newarray .long, 2)) (zw_T zwd_13) rfl rfl
theorem zf_zm_5_5 (env : List (Nat × Nat)) : zI9 5 zY_5 zm_5 env (9, 4, 17, 0, 2) 12 := zi_putfF (i := 7) (N := 25) (C := "TransportPairModel$Seals") (ref := "TransportPairModel$Seals") (T := zF_17) (by decide +kernel : decode zY_5.2.1 9 = .ok (.putfield 7, 3)) rfl zuw_17 zFt_17 zFn_17 (by decide) (zw_T zwd_14) rfl rfl rfl rfl (ty := .array .long) (by decide +kernel) (Or.inr ⟨_, rfl⟩)
theorem zf_zm_5_6 (env : List (Nat × Nat)) : zI9 5 zY_5 zm_5 env (12, 0, 0, 0, 0) 13 := zi_aload_n (by decide +kernel : decode zY_5.2.1 12 = .ok (.aload_n 0, 1)) rfl
theorem zf_zm_5_7 (env : List (Nat × Nat)) : zI9 5 zY_5 zm_5 env (13, 2, 64, 0, 0) 15 := zi_bipush (by decide +kernel : decode zY_5.2.1 13 = .ok (.bipush 64, 2)) (by decide +kernel)
theorem zf_zm_5_8 (env : List (Nat × Nat)) : zI9 5 zY_5 zm_5 env (15, 12, 1, 3, 0) 17 := zi_newL (by decide +kernel : decode zY_5.2.1 15 = .ok (.newarray .long, 2)) (zw_T zwd_13) rfl rfl
theorem zf_zm_5_9 (env : List (Nat × Nat)) : zI9 5 zY_5 zm_5 env (17, 4, 17, 1, 2) 20 := zi_putfF (i := 13) (N := 25) (C := "TransportPairModel$Seals") (ref := "TransportPairModel$Seals") (T := zF_17) (by decide +kernel : decode zY_5.2.1 17 = .ok (.putfield 13, 3)) rfl zuw_17 zFt_17 zFn_17 (by decide) (zw_T zwd_15) rfl rfl rfl rfl (ty := .array .long) (by decide +kernel) (Or.inr ⟨_, rfl⟩)
theorem zf_zm_5_10 (env : List (Nat × Nat)) : zI9 5 zY_5 zm_5 env (20, 0, 0, 0, 0) 21 := zi_aload_n (by decide +kernel : decode zY_5.2.1 20 = .ok (.aload_n 0, 1)) rfl
theorem zf_zm_5_11 (env : List (Nat × Nat)) : zI9 5 zY_5 zm_5 env (21, 2, 3, 0, 0) 22 := zi_iconst (by decide +kernel : decode zY_5.2.1 21 = .ok (.iconst 3, 1)) (by decide +kernel)
theorem zf_zm_5_12 (env : List (Nat × Nat)) : zI9 5 zY_5 zm_5 env (22, 12, 0, 0, 0) 24 := zi_newI (by decide +kernel : decode zY_5.2.1 22 = .ok (.newarray .int, 2)) (zw_T zwd_16) rfl rfl (by decide) rfl
theorem zf_zm_5_13 (env : List (Nat × Nat)) : zI9 5 zY_5 zm_5 env (24, 4, 17, 2, 2) 27 := zi_putfF (i := 16) (N := 25) (C := "TransportPairModel$Seals") (ref := "TransportPairModel$Seals") (T := zF_17) (by decide +kernel : decode zY_5.2.1 24 = .ok (.putfield 16, 3)) rfl zuw_17 zFt_17 zFn_17 (by decide) (zw_T zwd_1) rfl rfl rfl rfl (ty := .array .int) (by decide +kernel) (Or.inr ⟨_, rfl⟩)
theorem zf_zm_5_14 (env : List (Nat × Nat)) : zI9 5 zY_5 zm_5 env (27, 0, 0, 0, 0) 28 := zi_aload_n (by decide +kernel : decode zY_5.2.1 27 = .ok (.aload_n 0, 1)) rfl
theorem zf_zm_5_15 (env : List (Nat × Nat)) : zI9 5 zY_5 zm_5 env (28, 2, 9, 0, 0) 30 := zi_bipush (by decide +kernel : decode zY_5.2.1 28 = .ok (.bipush 9, 2)) (by decide +kernel)
theorem zf_zm_5_16 (env : List (Nat × Nat)) : zI9 5 zY_5 zm_5 env (30, 12, 0, 0, 0) 32 := zi_newI (by decide +kernel : decode zY_5.2.1 30 = .ok (.newarray .int, 2)) (zw_T zwd_16) rfl rfl (by decide) rfl
theorem zf_zm_5_17 (env : List (Nat × Nat)) : zI9 5 zY_5 zm_5 env (32, 4, 17, 3, 2) 35 := zi_putfF (i := 20) (N := 25) (C := "TransportPairModel$Seals") (ref := "TransportPairModel$Seals") (T := zF_17) (by decide +kernel : decode zY_5.2.1 32 = .ok (.putfield 20, 3)) rfl zuw_17 zFt_17 zFn_17 (by decide) (zw_T zwd_0) rfl rfl rfl rfl (ty := .array .int) (by decide +kernel) (Or.inr ⟨_, rfl⟩)
theorem zf_zm_5_18 (env : List (Nat × Nat)) : zI9 5 zY_5 zm_5 env (35, 0, 0, 0, 0) 36 := zi_aload_n (by decide +kernel : decode zY_5.2.1 35 = .ok (.aload_n 0, 1)) rfl
theorem zf_zm_5_19 (env : List (Nat × Nat)) : zI9 5 zY_5 zm_5 env (36, 2, 2400, 0, 0) 39 := zi_sipush (by decide +kernel : decode zY_5.2.1 36 = .ok (.sipush 2400, 3)) (by decide +kernel)
theorem zf_zm_5_20 (env : List (Nat × Nat)) : zI9 5 zY_5 zm_5 env (39, 12, 0, 0, 0) 41 := zi_newI (by decide +kernel : decode zY_5.2.1 39 = .ok (.newarray .int, 2)) (zw_T zwd_16) rfl rfl (by decide) rfl
theorem zf_zm_5_21 (env : List (Nat × Nat)) : zI9 5 zY_5 zm_5 env (41, 4, 17, 4, 2) 44 := zi_putfF (i := 23) (N := 25) (C := "TransportPairModel$Seals") (ref := "TransportPairModel$Seals") (T := zF_17) (by decide +kernel : decode zY_5.2.1 41 = .ok (.putfield 23, 3)) rfl zuw_17 zFt_17 zFn_17 (by decide) (zw_T zwd_17) rfl rfl rfl rfl (ty := .array .int) (by decide +kernel) (Or.inr ⟨_, rfl⟩)
theorem zf_zm_5_22 (env : List (Nat × Nat)) : zI9 5 zY_5 zm_5 env (44, 0, 0, 0, 0) 45 := zi_aload_n (by decide +kernel : decode zY_5.2.1 44 = .ok (.aload_n 0, 1)) rfl
theorem zf_zm_5_23 (env : List (Nat × Nat)) : zI9 5 zY_5 zm_5 env (45, 2, 64, 0, 0) 47 := zi_bipush (by decide +kernel : decode zY_5.2.1 45 = .ok (.bipush 64, 2)) (by decide +kernel)
theorem zf_zm_5_24 (env : List (Nat × Nat)) : zI9 5 zY_5 zm_5 env (47, 12, 1, 3, 0) 49 := zi_newL (by decide +kernel : decode zY_5.2.1 47 = .ok (.newarray .long, 2)) (zw_T zwd_13) rfl rfl
theorem zf_zm_5_25 (env : List (Nat × Nat)) : zI9 5 zY_5 zm_5 env (49, 4, 17, 5, 2) 52 := zi_putfF (i := 26) (N := 25) (C := "TransportPairModel$Seals") (ref := "TransportPairModel$Seals") (T := zF_17) (by decide +kernel : decode zY_5.2.1 49 = .ok (.putfield 26, 3)) rfl zuw_17 zFt_17 zFn_17 (by decide) (zw_T zwd_2) rfl rfl rfl rfl (ty := .array .long) (by decide +kernel) (Or.inr ⟨_, rfl⟩)
theorem zf_zm_5_26 (env : List (Nat × Nat)) : zI9 5 zY_5 zm_5 env (52, 0, 0, 0, 0) 53 := zi_aload_n (by decide +kernel : decode zY_5.2.1 52 = .ok (.aload_n 0, 1)) rfl
theorem zf_zm_5_27 (env : List (Nat × Nat)) : zI9 5 zY_5 zm_5 env (53, 2, 8, 0, 0) 55 := zi_bipush (by decide +kernel : decode zY_5.2.1 53 = .ok (.bipush 8, 2)) (by decide +kernel)
theorem zf_zm_5_28 (env : List (Nat × Nat)) : zI9 5 zY_5 zm_5 env (55, 12, 1, 3, 0) 57 := zi_newL (by decide +kernel : decode zY_5.2.1 55 = .ok (.newarray .long, 2)) (zw_T zwd_13) rfl rfl
theorem zf_zm_5_29 (env : List (Nat × Nat)) : zI9 5 zY_5 zm_5 env (57, 4, 17, 6, 2) 60 := zi_putfF (i := 29) (N := 25) (C := "TransportPairModel$Seals") (ref := "TransportPairModel$Seals") (T := zF_17) (by decide +kernel : decode zY_5.2.1 57 = .ok (.putfield 29, 3)) rfl zuw_17 zFt_17 zFn_17 (by decide) (zw_T zwd_18) rfl rfl rfl rfl (ty := .array .long) (by decide +kernel) (Or.inr ⟨_, rfl⟩)
theorem zf_zm_5_30 (env : List (Nat × Nat)) : zI9 5 zY_5 zm_5 env (60, 0, 0, 0, 0) 61 := zi_aload_n (by decide +kernel : decode zY_5.2.1 60 = .ok (.aload_n 0, 1)) rfl
theorem zf_zm_5_31 (env : List (Nat × Nat)) : zI9 5 zY_5 zm_5 env (61, 2, 8, 0, 0) 63 := zi_bipush (by decide +kernel : decode zY_5.2.1 61 = .ok (.bipush 8, 2)) (by decide +kernel)
theorem zf_zm_5_32 (env : List (Nat × Nat)) : zI9 5 zY_5 zm_5 env (63, 12, 1, 3, 0) 65 := zi_newL (by decide +kernel : decode zY_5.2.1 63 = .ok (.newarray .long, 2)) (zw_T zwd_13) rfl rfl
theorem zf_zm_5_33 (env : List (Nat × Nat)) : zI9 5 zY_5 zm_5 env (65, 4, 17, 7, 2) 68 := zi_putfF (i := 32) (N := 25) (C := "TransportPairModel$Seals") (ref := "TransportPairModel$Seals") (T := zF_17) (by decide +kernel : decode zY_5.2.1 65 = .ok (.putfield 32, 3)) rfl zuw_17 zFt_17 zFn_17 (by decide) (zw_T zwd_19) rfl rfl rfl rfl (ty := .array .long) (by decide +kernel) (Or.inr ⟨_, rfl⟩)
theorem zf_zm_5_34 (env : List (Nat × Nat)) : zI9 5 zY_5 zm_5 env (68, 0, 0, 0, 0) 69 := zi_aload_n (by decide +kernel : decode zY_5.2.1 68 = .ok (.aload_n 0, 1)) rfl
theorem zf_zm_5_35 (env : List (Nat × Nat)) : zI9 5 zY_5 zm_5 env (69, 2, 32, 0, 0) 71 := zi_bipush (by decide +kernel : decode zY_5.2.1 69 = .ok (.bipush 32, 2)) (by decide +kernel)
theorem zf_zm_5_36 (env : List (Nat × Nat)) : zI9 5 zY_5 zm_5 env (71, 12, 0, 0, 0) 73 := zi_newI (by decide +kernel : decode zY_5.2.1 71 = .ok (.newarray .int, 2)) (zw_T zwd_16) rfl rfl (by decide) rfl
theorem zf_zm_5_37 (env : List (Nat × Nat)) : zI9 5 zY_5 zm_5 env (73, 4, 17, 8, 2) 76 := zi_putfF (i := 35) (N := 25) (C := "TransportPairModel$Seals") (ref := "TransportPairModel$Seals") (T := zF_17) (by decide +kernel : decode zY_5.2.1 73 = .ok (.putfield 35, 3)) rfl zuw_17 zFt_17 zFn_17 (by decide) (zw_T zwd_20) rfl rfl rfl rfl (ty := .array .int) (by decide +kernel) (Or.inr ⟨_, rfl⟩)
theorem zf_zm_5_38 (env : List (Nat × Nat)) : zI9 5 zY_5 zm_5 env (76, 0, 0, 0, 0) 77 := zi_aload_n (by decide +kernel : decode zY_5.2.1 76 = .ok (.aload_n 0, 1)) rfl
theorem zf_zm_5_39 (env : List (Nat × Nat)) : zI9 5 zY_5 zm_5 env (77, 2, 64, 0, 0) 79 := zi_bipush (by decide +kernel : decode zY_5.2.1 77 = .ok (.bipush 64, 2)) (by decide +kernel)
theorem zf_zm_5_40 (env : List (Nat × Nat)) : zI9 5 zY_5 zm_5 env (79, 12, 0, 0, 0) 81 := zi_newI (by decide +kernel : decode zY_5.2.1 79 = .ok (.newarray .int, 2)) (zw_T zwd_16) rfl rfl (by decide) rfl
theorem zf_zm_5_41 (env : List (Nat × Nat)) : zI9 5 zY_5 zm_5 env (81, 4, 17, 9, 2) 84 := zi_putfF (i := 38) (N := 25) (C := "TransportPairModel$Seals") (ref := "TransportPairModel$Seals") (T := zF_17) (by decide +kernel : decode zY_5.2.1 81 = .ok (.putfield 38, 3)) rfl zuw_17 zFt_17 zFn_17 (by decide) (zw_T zwd_21) rfl rfl rfl rfl (ty := .array .int) (by decide +kernel) (Or.inr ⟨_, rfl⟩)
theorem zf_zm_5_42 (env : List (Nat × Nat)) : zI9 5 zY_5 zm_5 env (84, 0, 0, 0, 0) 85 := zi_aload_n (by decide +kernel : decode zY_5.2.1 84 = .ok (.aload_n 0, 1)) rfl
theorem zf_zm_5_43 (env : List (Nat × Nat)) : zI9 5 zY_5 zm_5 env (85, 2, 2400, 0, 0) 88 := zi_sipush (by decide +kernel : decode zY_5.2.1 85 = .ok (.sipush 2400, 3)) (by decide +kernel)
theorem zf_zm_5_44 (env : List (Nat × Nat)) : zI9 5 zY_5 zm_5 env (88, 12, 0, 0, 0) 90 := zi_newI (by decide +kernel : decode zY_5.2.1 88 = .ok (.newarray .int, 2)) (zw_T zwd_16) rfl rfl (by decide) rfl
theorem zf_zm_5_45 (env : List (Nat × Nat)) : zI9 5 zY_5 zm_5 env (90, 4, 17, 10, 2) 93 := zi_putfF (i := 41) (N := 25) (C := "TransportPairModel$Seals") (ref := "TransportPairModel$Seals") (T := zF_17) (by decide +kernel : decode zY_5.2.1 90 = .ok (.putfield 41, 3)) rfl zuw_17 zFt_17 zFn_17 (by decide) (zw_T zwd_22) rfl rfl rfl rfl (ty := .array .int) (by decide +kernel) (Or.inr ⟨_, rfl⟩)
theorem zf_zm_5_46 (env : List (Nat × Nat)) : zI9 5 zY_5 zm_5 env (93, 0, 0, 0, 0) 94 := zi_aload_n (by decide +kernel : decode zY_5.2.1 93 = .ok (.aload_n 0, 1)) rfl
theorem zf_zm_5_47 (env : List (Nat × Nat)) : zI9 5 zY_5 zm_5 env (94, 2, 400, 0, 0) 97 := zi_sipush (by decide +kernel : decode zY_5.2.1 94 = .ok (.sipush 400, 3)) (by decide +kernel)
theorem zf_zm_5_48 (env : List (Nat × Nat)) : zI9 5 zY_5 zm_5 env (97, 12, 0, 0, 0) 99 := zi_newI (by decide +kernel : decode zY_5.2.1 97 = .ok (.newarray .int, 2)) (zw_T zwd_16) rfl rfl (by decide) rfl
theorem zf_zm_5_49 (env : List (Nat × Nat)) : zI9 5 zY_5 zm_5 env (99, 4, 17, 12, 2) 102 := zi_putfF (i := 44) (N := 25) (C := "TransportPairModel$Seals") (ref := "TransportPairModel$Seals") (T := zF_17) (by decide +kernel : decode zY_5.2.1 99 = .ok (.putfield 44, 3)) rfl zuw_17 zFt_17 zFn_17 (by decide) (zw_T zwd_23) rfl rfl rfl rfl (ty := .array .int) (by decide +kernel) (Or.inr ⟨_, rfl⟩)
theorem zf_zm_5_50 (env : List (Nat × Nat)) : zI9 5 zY_5 zm_5 env (102, 0, 0, 0, 0) 103 := zi_aload_n (by decide +kernel : decode zY_5.2.1 102 = .ok (.aload_n 0, 1)) rfl
theorem zf_zm_5_51 (env : List (Nat × Nat)) : zI9 5 zY_5 zm_5 env (103, 2, 64, 0, 0) 105 := zi_bipush (by decide +kernel : decode zY_5.2.1 103 = .ok (.bipush 64, 2)) (by decide +kernel)
theorem zf_zm_5_52 (env : List (Nat × Nat)) : zI9 5 zY_5 zm_5 env (105, 12, 0, 0, 0) 107 := zi_newI (by decide +kernel : decode zY_5.2.1 105 = .ok (.newarray .int, 2)) (zw_T zwd_16) rfl rfl (by decide) rfl
theorem zf_zm_5_53 (env : List (Nat × Nat)) : zI9 5 zY_5 zm_5 env (107, 4, 17, 14, 2) 110 := zi_putfF (i := 47) (N := 25) (C := "TransportPairModel$Seals") (ref := "TransportPairModel$Seals") (T := zF_17) (by decide +kernel : decode zY_5.2.1 107 = .ok (.putfield 47, 3)) rfl zuw_17 zFt_17 zFn_17 (by decide) (zw_T zwd_24) rfl rfl rfl rfl (ty := .array .int) (by decide +kernel) (Or.inr ⟨_, rfl⟩)
theorem zf_zm_5_54 (env : List (Nat × Nat)) : zI9 5 zY_5 zm_5 env (110, 0, 0, 0, 0) 111 := zi_aload_n (by decide +kernel : decode zY_5.2.1 110 = .ok (.aload_n 0, 1)) rfl
theorem zf_zm_5_55 (env : List (Nat × Nat)) : zI9 5 zY_5 zm_5 env (111, 2, 32, 0, 0) 113 := zi_bipush (by decide +kernel : decode zY_5.2.1 111 = .ok (.bipush 32, 2)) (by decide +kernel)
theorem zf_zm_5_56 (env : List (Nat × Nat)) : zI9 5 zY_5 zm_5 env (113, 12, 0, 0, 0) 115 := zi_newI (by decide +kernel : decode zY_5.2.1 113 = .ok (.newarray .int, 2)) (zw_T zwd_16) rfl rfl (by decide) rfl
theorem zf_zm_5_57 (env : List (Nat × Nat)) : zI9 5 zY_5 zm_5 env (115, 4, 17, 15, 2) 118 := zi_putfF (i := 50) (N := 25) (C := "TransportPairModel$Seals") (ref := "TransportPairModel$Seals") (T := zF_17) (by decide +kernel : decode zY_5.2.1 115 = .ok (.putfield 50, 3)) rfl zuw_17 zFt_17 zFn_17 (by decide) (zw_T zwd_25) rfl rfl rfl rfl (ty := .array .int) (by decide +kernel) (Or.inr ⟨_, rfl⟩)
theorem zf_zm_5_58 (env : List (Nat × Nat)) : zI9 5 zY_5 zm_5 env (118, 0, 0, 0, 0) 119 := zi_aload_n (by decide +kernel : decode zY_5.2.1 118 = .ok (.aload_n 0, 1)) rfl
theorem zf_zm_5_59 (env : List (Nat × Nat)) : zI9 5 zY_5 zm_5 env (119, 2, 12, 0, 0) 121 := zi_bipush (by decide +kernel : decode zY_5.2.1 119 = .ok (.bipush 12, 2)) (by decide +kernel)
theorem zf_zm_5_60 (env : List (Nat × Nat)) : zI9 5 zY_5 zm_5 env (121, 12, 0, 0, 0) 123 := zi_newI (by decide +kernel : decode zY_5.2.1 121 = .ok (.newarray .int, 2)) (zw_T zwd_16) rfl rfl (by decide) rfl
theorem zf_zm_5_61 (env : List (Nat × Nat)) : zI9 5 zY_5 zm_5 env (123, 4, 17, 16, 2) 126 := zi_putfF (i := 53) (N := 25) (C := "TransportPairModel$Seals") (ref := "TransportPairModel$Seals") (T := zF_17) (by decide +kernel : decode zY_5.2.1 123 = .ok (.putfield 53, 3)) rfl zuw_17 zFt_17 zFn_17 (by decide) (zw_T zwd_26) rfl rfl rfl rfl (ty := .array .int) (by decide +kernel) (Or.inr ⟨_, rfl⟩)
theorem zf_zm_5_62 (env : List (Nat × Nat)) : zI9 5 zY_5 zm_5 env (126, 0, 0, 0, 0) 127 := zi_aload_n (by decide +kernel : decode zY_5.2.1 126 = .ok (.aload_n 0, 1)) rfl
theorem zf_zm_5_63 (env : List (Nat × Nat)) : zI9 5 zY_5 zm_5 env (127, 2, 16, 0, 0) 129 := zi_bipush (by decide +kernel : decode zY_5.2.1 127 = .ok (.bipush 16, 2)) (by decide +kernel)
theorem zf_zm_5_64 (env : List (Nat × Nat)) : zI9 5 zY_5 zm_5 env (129, 12, 1, 3, 0) 131 := zi_newL (by decide +kernel : decode zY_5.2.1 129 = .ok (.newarray .long, 2)) (zw_T zwd_13) rfl rfl
theorem zf_zm_5_65 (env : List (Nat × Nat)) : zI9 5 zY_5 zm_5 env (131, 4, 17, 17, 2) 134 := zi_putfF (i := 56) (N := 25) (C := "TransportPairModel$Seals") (ref := "TransportPairModel$Seals") (T := zF_17) (by decide +kernel : decode zY_5.2.1 131 = .ok (.putfield 56, 3)) rfl zuw_17 zFt_17 zFn_17 (by decide) (zw_T zwd_27) rfl rfl rfl rfl (ty := .array .long) (by decide +kernel) (Or.inr ⟨_, rfl⟩)
theorem zf_zm_5_66 (env : List (Nat × Nat)) : zI9 5 zY_5 zm_5 env (134, 0, 0, 0, 0) 135 := zi_aload_n (by decide +kernel : decode zY_5.2.1 134 = .ok (.aload_n 0, 1)) rfl
theorem zf_zm_5_67 (env : List (Nat × Nat)) : zI9 5 zY_5 zm_5 env (135, 2, 16, 0, 0) 137 := zi_bipush (by decide +kernel : decode zY_5.2.1 135 = .ok (.bipush 16, 2)) (by decide +kernel)
theorem zf_zm_5_68 (env : List (Nat × Nat)) : zI9 5 zY_5 zm_5 env (137, 12, 1, 3, 0) 139 := zi_newL (by decide +kernel : decode zY_5.2.1 137 = .ok (.newarray .long, 2)) (zw_T zwd_13) rfl rfl
theorem zf_zm_5_69 (env : List (Nat × Nat)) : zI9 5 zY_5 zm_5 env (139, 4, 17, 18, 2) 142 := zi_putfF (i := 59) (N := 25) (C := "TransportPairModel$Seals") (ref := "TransportPairModel$Seals") (T := zF_17) (by decide +kernel : decode zY_5.2.1 139 = .ok (.putfield 59, 3)) rfl zuw_17 zFt_17 zFn_17 (by decide) (zw_T zwd_28) rfl rfl rfl rfl (ty := .array .long) (by decide +kernel) (Or.inr ⟨_, rfl⟩)
theorem zf_zm_5_70 (env : List (Nat × Nat)) : zI9 5 zY_5 zm_5 env (142, 0, 0, 0, 0) 143 := zi_aload_n (by decide +kernel : decode zY_5.2.1 142 = .ok (.aload_n 0, 1)) rfl
theorem zf_zm_5_71 (env : List (Nat × Nat)) : zI9 5 zY_5 zm_5 env (143, 2, 64, 0, 0) 145 := zi_bipush (by decide +kernel : decode zY_5.2.1 143 = .ok (.bipush 64, 2)) (by decide +kernel)
theorem zf_zm_5_72 (env : List (Nat × Nat)) : zI9 5 zY_5 zm_5 env (145, 12, 0, 0, 0) 147 := zi_newI (by decide +kernel : decode zY_5.2.1 145 = .ok (.newarray .int, 2)) (zw_T zwd_16) rfl rfl (by decide) rfl
theorem zf_zm_5_73 (env : List (Nat × Nat)) : zI9 5 zY_5 zm_5 env (147, 4, 17, 19, 2) 150 := zi_putfF (i := 62) (N := 25) (C := "TransportPairModel$Seals") (ref := "TransportPairModel$Seals") (T := zF_17) (by decide +kernel : decode zY_5.2.1 147 = .ok (.putfield 62, 3)) rfl zuw_17 zFt_17 zFn_17 (by decide) (zw_T zwd_29) rfl rfl rfl rfl (ty := .array .int) (by decide +kernel) (Or.inr ⟨_, rfl⟩)
theorem zf_zm_5_74 (env : List (Nat × Nat)) : zI9 5 zY_5 zm_5 env (150, 0, 0, 0, 0) 151 := zi_aload_n (by decide +kernel : decode zY_5.2.1 150 = .ok (.aload_n 0, 1)) rfl
theorem zf_zm_5_75 (env : List (Nat × Nat)) : zI9 5 zY_5 zm_5 env (151, 2, 40, 0, 0) 153 := zi_bipush (by decide +kernel : decode zY_5.2.1 151 = .ok (.bipush 40, 2)) (by decide +kernel)
theorem zf_zm_5_76 (env : List (Nat × Nat)) : zI9 5 zY_5 zm_5 env (153, 12, 0, 0, 0) 155 := zi_newI (by decide +kernel : decode zY_5.2.1 153 = .ok (.newarray .int, 2)) (zw_T zwd_16) rfl rfl (by decide) rfl
theorem zf_zm_5_77 (env : List (Nat × Nat)) : zI9 5 zY_5 zm_5 env (155, 4, 17, 20, 2) 158 := zi_putfF (i := 65) (N := 25) (C := "TransportPairModel$Seals") (ref := "TransportPairModel$Seals") (T := zF_17) (by decide +kernel : decode zY_5.2.1 155 = .ok (.putfield 65, 3)) rfl zuw_17 zFt_17 zFn_17 (by decide) (zw_T zwd_30) rfl rfl rfl rfl (ty := .array .int) (by decide +kernel) (Or.inr ⟨_, rfl⟩)
theorem zf_zm_5_78 (env : List (Nat × Nat)) : zI9 5 zY_5 zm_5 env (158, 0, 0, 0, 0) 159 := zi_aload_n (by decide +kernel : decode zY_5.2.1 158 = .ok (.aload_n 0, 1)) rfl
theorem zf_zm_5_79 (env : List (Nat × Nat)) : zI9 5 zY_5 zm_5 env (159, 2, 16, 0, 0) 161 := zi_bipush (by decide +kernel : decode zY_5.2.1 159 = .ok (.bipush 16, 2)) (by decide +kernel)
theorem zf_zm_5_80 (env : List (Nat × Nat)) : zI9 5 zY_5 zm_5 env (161, 12, 0, 0, 0) 163 := zi_newI (by decide +kernel : decode zY_5.2.1 161 = .ok (.newarray .int, 2)) (zw_T zwd_16) rfl rfl (by decide) rfl
theorem zf_zm_5_81 (env : List (Nat × Nat)) : zI9 5 zY_5 zm_5 env (163, 4, 17, 21, 2) 166 := zi_putfF (i := 68) (N := 25) (C := "TransportPairModel$Seals") (ref := "TransportPairModel$Seals") (T := zF_17) (by decide +kernel : decode zY_5.2.1 163 = .ok (.putfield 68, 3)) rfl zuw_17 zFt_17 zFn_17 (by decide) (zw_T zwd_31) rfl rfl rfl rfl (ty := .array .int) (by decide +kernel) (Or.inr ⟨_, rfl⟩)
theorem zf_zm_5_82 (env : List (Nat × Nat)) : zI9 5 zY_5 zm_5 env (166, 0, 0, 0, 0) 167 := zi_aload_n (by decide +kernel : decode zY_5.2.1 166 = .ok (.aload_n 0, 1)) rfl
theorem zf_zm_5_83 (env : List (Nat × Nat)) : zI9 5 zY_5 zm_5 env (167, 2, 40, 0, 0) 169 := zi_bipush (by decide +kernel : decode zY_5.2.1 167 = .ok (.bipush 40, 2)) (by decide +kernel)
theorem zf_zm_5_84 (env : List (Nat × Nat)) : zI9 5 zY_5 zm_5 env (169, 12, 0, 0, 0) 171 := zi_newI (by decide +kernel : decode zY_5.2.1 169 = .ok (.newarray .int, 2)) (zw_T zwd_16) rfl rfl (by decide) rfl
theorem zf_zm_5_85 (env : List (Nat × Nat)) : zI9 5 zY_5 zm_5 env (171, 4, 17, 22, 2) 174 := zi_putfF (i := 71) (N := 25) (C := "TransportPairModel$Seals") (ref := "TransportPairModel$Seals") (T := zF_17) (by decide +kernel : decode zY_5.2.1 171 = .ok (.putfield 71, 3)) rfl zuw_17 zFt_17 zFn_17 (by decide) (zw_T zwd_32) rfl rfl rfl rfl (ty := .array .int) (by decide +kernel) (Or.inr ⟨_, rfl⟩)
theorem zf_zm_5_86 (env : List (Nat × Nat)) : zI9 5 zY_5 zm_5 env (174, 0, 0, 0, 0) 175 := zi_aload_n (by decide +kernel : decode zY_5.2.1 174 = .ok (.aload_n 0, 1)) rfl
theorem zf_zm_5_87 (env : List (Nat × Nat)) : zI9 5 zY_5 zm_5 env (175, 2, 16, 0, 0) 177 := zi_bipush (by decide +kernel : decode zY_5.2.1 175 = .ok (.bipush 16, 2)) (by decide +kernel)
theorem zf_zm_5_88 (env : List (Nat × Nat)) : zI9 5 zY_5 zm_5 env (177, 12, 0, 0, 0) 179 := zi_newI (by decide +kernel : decode zY_5.2.1 177 = .ok (.newarray .int, 2)) (zw_T zwd_16) rfl rfl (by decide) rfl
theorem zf_zm_5_89 (env : List (Nat × Nat)) : zI9 5 zY_5 zm_5 env (179, 4, 17, 23, 2) 182 := zi_putfF (i := 74) (N := 25) (C := "TransportPairModel$Seals") (ref := "TransportPairModel$Seals") (T := zF_17) (by decide +kernel : decode zY_5.2.1 179 = .ok (.putfield 74, 3)) rfl zuw_17 zFt_17 zFn_17 (by decide) (zw_T zwd_33) rfl rfl rfl rfl (ty := .array .int) (by decide +kernel) (Or.inr ⟨_, rfl⟩)
theorem zf_zm_5_90 (env : List (Nat × Nat)) : zI9 5 zY_5 zm_5 env (182, 0, 0, 0, 0) 183 := zi_aload_n (by decide +kernel : decode zY_5.2.1 182 = .ok (.aload_n 0, 1)) rfl
theorem zf_zm_5_91 (env : List (Nat × Nat)) : zI9 5 zY_5 zm_5 env (183, 2, 2400, 0, 0) 186 := zi_sipush (by decide +kernel : decode zY_5.2.1 183 = .ok (.sipush 2400, 3)) (by decide +kernel)
theorem zf_zm_5_92 (env : List (Nat × Nat)) : zI9 5 zY_5 zm_5 env (186, 12, 0, 0, 0) 188 := zi_newI (by decide +kernel : decode zY_5.2.1 186 = .ok (.newarray .int, 2)) (zw_T zwd_16) rfl rfl (by decide) rfl
theorem zf_zm_5_93 (env : List (Nat × Nat)) : zI9 5 zY_5 zm_5 env (188, 4, 17, 24, 2) 191 := zi_putfF (i := 77) (N := 25) (C := "TransportPairModel$Seals") (ref := "TransportPairModel$Seals") (T := zF_17) (by decide +kernel : decode zY_5.2.1 188 = .ok (.putfield 77, 3)) rfl zuw_17 zFt_17 zFn_17 (by decide) (zw_T zwd_34) rfl rfl rfl rfl (ty := .array .int) (by decide +kernel) (Or.inr ⟨_, rfl⟩)
theorem zf_zm_5_94 (env : List (Nat × Nat)) : zI9 5 zY_5 zm_5 env (191, 73, 399, 0, 0) 191 := zi_wide
theorem zf_zm_5_95 (env : List (Nat × Nat)) : zI9 5 zY_5 zm_5 env (191, 73, 400, 0, 0) 191 := zi_wide
theorem zf_zm_5_96 (env : List (Nat × Nat)) : zI9 5 zY_5 zm_5 env (191, 73, 401, 0, 0) 191 := zi_wide
theorem zf_zm_5_97 (env : List (Nat × Nat)) : zI9 5 zY_5 zm_5 env (191, 73, 402, 0, 0) 191 := zi_wide
theorem zf_zm_5_98 (env : List (Nat × Nat)) : zI9 5 zY_5 zm_5 env (191, 73, 404, 0, 0) 191 := zi_wide
theorem zf_zm_5_99 (env : List (Nat × Nat)) : zI9 5 zY_5 zm_5 env (191, 2, 1, 0, 0) 192 := zi_iconst (by decide +kernel : decode zY_5.2.1 191 = .ok (.iconst 1, 1)) (by decide +kernel)
theorem zf_zm_5_100 (env : List (Nat × Nat)) : zI9 5 zY_5 zm_5 env (192, 10, 1, 0, 0) 193 := zi_istore_n (by decide +kernel : decode zY_5.2.1 192 = .ok (.istore_n 1, 1)) rfl (by decide)
theorem zf_zm_5_101 (env : List (Nat × Nat)) : zI9 5 zY_5 zm_5 env (193, 2, 0, 0, 0) 194 := zi_iconst (by decide +kernel : decode zY_5.2.1 193 = .ok (.iconst 0, 1)) (by decide +kernel)
theorem zf_zm_5_102 (env : List (Nat × Nat)) : zI9 5 zY_5 zm_5 env (194, 10, 2, 0, 0) 195 := zi_istore_n (by decide +kernel : decode zY_5.2.1 194 = .ok (.istore_n 2, 1)) rfl (by decide)
theorem zf_zm_5_104 (env : List (Nat × Nat)) : zI9 5 zY_5 zm_5 env (195, 63, 2, 0, 0) 196 := zi_iload_n (by decide +kernel : decode zY_5.2.1 195 = .ok (.iload_n 2, 1)) rfl
theorem zf_zm_5_105 (env : List (Nat × Nat)) : zI9 5 zY_5 zm_5 env (196, 2, 64, 0, 0) 198 := zi_bipush (by decide +kernel : decode zY_5.2.1 196 = .ok (.bipush 64, 2)) (by decide +kernel)
theorem zf_zm_5_106 (env : List (Nat × Nat)) : zI9 5 zY_5 zm_5 env (198, 28, 108, 0, 0) 201 := zi_icmp_ge (off := 44) (t := 242) (by decide +kernel : decode zY_5.2.1 198 = .ok (.if_icmp .ge 44, 3)) (by decide) (by decide +kernel)
theorem zf_zm_5_107 (env : List (Nat × Nat)) : zI9 5 zY_5 zm_5 env (201, 99, 0, 0, 0) 242 := zi_none
theorem zf_zm_5_108 (env : List (Nat × Nat)) : zR9 5 env (242, 21, 0, 0, 0) := zi_vret (by decide +kernel : decode (zYf 5).2.1 242 = .ok (.return_, 1)) rfl
set_option maxRecDepth 100000 in
theorem zc_zm_5 (env : List (Nat × Nat)) : zcode zX (z_QF zEX zcl zft) (z_zm zEX zX zWL zcl zft zYf) zYf zW zET zcl zft (zGv env) 5 zm_5 zm_5.1 := ⟨Or.inl ⟨1, zf_zm_5_0 env, zpc_c⟩,
  Or.inl ⟨4, zf_zm_5_1 env, zpc_c⟩,
  Or.inl ⟨5, zf_zm_5_2 env, zpc_c⟩,
  Or.inl ⟨7, zf_zm_5_3 env, zpc_c⟩,
  Or.inl ⟨9, zf_zm_5_4 env, zpc_c⟩,
  Or.inl ⟨12, zf_zm_5_5 env, zpc_c⟩,
  Or.inl ⟨13, zf_zm_5_6 env, zpc_c⟩,
  Or.inl ⟨15, zf_zm_5_7 env, zpc_c⟩,
  Or.inl ⟨17, zf_zm_5_8 env, zpc_c⟩,
  Or.inl ⟨20, zf_zm_5_9 env, zpc_c⟩,
  Or.inl ⟨21, zf_zm_5_10 env, zpc_c⟩,
  Or.inl ⟨22, zf_zm_5_11 env, zpc_c⟩,
  Or.inl ⟨24, zf_zm_5_12 env, zpc_c⟩,
  Or.inl ⟨27, zf_zm_5_13 env, zpc_c⟩,
  Or.inl ⟨28, zf_zm_5_14 env, zpc_c⟩,
  Or.inl ⟨30, zf_zm_5_15 env, zpc_c⟩,
  Or.inl ⟨32, zf_zm_5_16 env, zpc_c⟩,
  Or.inl ⟨35, zf_zm_5_17 env, zpc_c⟩,
  Or.inl ⟨36, zf_zm_5_18 env, zpc_c⟩,
  Or.inl ⟨39, zf_zm_5_19 env, zpc_c⟩,
  Or.inl ⟨41, zf_zm_5_20 env, zpc_c⟩,
  Or.inl ⟨44, zf_zm_5_21 env, zpc_c⟩,
  Or.inl ⟨45, zf_zm_5_22 env, zpc_c⟩,
  Or.inl ⟨47, zf_zm_5_23 env, zpc_c⟩,
  Or.inl ⟨49, zf_zm_5_24 env, zpc_c⟩,
  Or.inl ⟨52, zf_zm_5_25 env, zpc_c⟩,
  Or.inl ⟨53, zf_zm_5_26 env, zpc_c⟩,
  Or.inl ⟨55, zf_zm_5_27 env, zpc_c⟩,
  Or.inl ⟨57, zf_zm_5_28 env, zpc_c⟩,
  Or.inl ⟨60, zf_zm_5_29 env, zpc_c⟩,
  Or.inl ⟨61, zf_zm_5_30 env, zpc_c⟩,
  Or.inl ⟨63, zf_zm_5_31 env, zpc_c⟩,
  Or.inl ⟨65, zf_zm_5_32 env, zpc_c⟩,
  Or.inl ⟨68, zf_zm_5_33 env, zpc_c⟩,
  Or.inl ⟨69, zf_zm_5_34 env, zpc_c⟩,
  Or.inl ⟨71, zf_zm_5_35 env, zpc_c⟩,
  Or.inl ⟨73, zf_zm_5_36 env, zpc_c⟩,
  Or.inl ⟨76, zf_zm_5_37 env, zpc_c⟩,
  Or.inl ⟨77, zf_zm_5_38 env, zpc_c⟩,
  Or.inl ⟨79, zf_zm_5_39 env, zpc_c⟩,
  Or.inl ⟨81, zf_zm_5_40 env, zpc_c⟩,
  Or.inl ⟨84, zf_zm_5_41 env, zpc_c⟩,
  Or.inl ⟨85, zf_zm_5_42 env, zpc_c⟩,
  Or.inl ⟨88, zf_zm_5_43 env, zpc_c⟩,
  Or.inl ⟨90, zf_zm_5_44 env, zpc_c⟩,
  Or.inl ⟨93, zf_zm_5_45 env, zpc_c⟩,
  Or.inl ⟨94, zf_zm_5_46 env, zpc_c⟩,
  Or.inl ⟨97, zf_zm_5_47 env, zpc_c⟩,
  Or.inl ⟨99, zf_zm_5_48 env, zpc_c⟩,
  Or.inl ⟨102, zf_zm_5_49 env, zpc_c⟩,
  Or.inl ⟨103, zf_zm_5_50 env, zpc_c⟩,
  Or.inl ⟨105, zf_zm_5_51 env, zpc_c⟩,
  Or.inl ⟨107, zf_zm_5_52 env, zpc_c⟩,
  Or.inl ⟨110, zf_zm_5_53 env, zpc_c⟩,
  Or.inl ⟨111, zf_zm_5_54 env, zpc_c⟩,
  Or.inl ⟨113, zf_zm_5_55 env, zpc_c⟩,
  Or.inl ⟨115, zf_zm_5_56 env, zpc_c⟩,
  Or.inl ⟨118, zf_zm_5_57 env, zpc_c⟩,
  Or.inl ⟨119, zf_zm_5_58 env, zpc_c⟩,
  Or.inl ⟨121, zf_zm_5_59 env, zpc_c⟩,
  Or.inl ⟨123, zf_zm_5_60 env, zpc_c⟩,
  Or.inl ⟨126, zf_zm_5_61 env, zpc_c⟩,
  Or.inl ⟨127, zf_zm_5_62 env, zpc_c⟩,
  Or.inl ⟨129, zf_zm_5_63 env, zpc_c⟩,
  Or.inl ⟨131, zf_zm_5_64 env, zpc_c⟩,
  Or.inl ⟨134, zf_zm_5_65 env, zpc_c⟩,
  Or.inl ⟨135, zf_zm_5_66 env, zpc_c⟩,
  Or.inl ⟨137, zf_zm_5_67 env, zpc_c⟩,
  Or.inl ⟨139, zf_zm_5_68 env, zpc_c⟩,
  Or.inl ⟨142, zf_zm_5_69 env, zpc_c⟩,
  Or.inl ⟨143, zf_zm_5_70 env, zpc_c⟩,
  Or.inl ⟨145, zf_zm_5_71 env, zpc_c⟩,
  Or.inl ⟨147, zf_zm_5_72 env, zpc_c⟩,
  Or.inl ⟨150, zf_zm_5_73 env, zpc_c⟩,
  Or.inl ⟨151, zf_zm_5_74 env, zpc_c⟩,
  Or.inl ⟨153, zf_zm_5_75 env, zpc_c⟩,
  Or.inl ⟨155, zf_zm_5_76 env, zpc_c⟩,
  Or.inl ⟨158, zf_zm_5_77 env, zpc_c⟩,
  Or.inl ⟨159, zf_zm_5_78 env, zpc_c⟩,
  Or.inl ⟨161, zf_zm_5_79 env, zpc_c⟩,
  Or.inl ⟨163, zf_zm_5_80 env, zpc_c⟩,
  Or.inl ⟨166, zf_zm_5_81 env, zpc_c⟩,
  Or.inl ⟨167, zf_zm_5_82 env, zpc_c⟩,
  Or.inl ⟨169, zf_zm_5_83 env, zpc_c⟩,
  Or.inl ⟨171, zf_zm_5_84 env, zpc_c⟩,
  Or.inl ⟨174, zf_zm_5_85 env, zpc_c⟩,
  Or.inl ⟨175, zf_zm_5_86 env, zpc_c⟩,
  Or.inl ⟨177, zf_zm_5_87 env, zpc_c⟩,
  Or.inl ⟨179, zf_zm_5_88 env, zpc_c⟩,
  Or.inl ⟨182, zf_zm_5_89 env, zpc_c⟩,
  Or.inl ⟨183, zf_zm_5_90 env, zpc_c⟩,
  Or.inl ⟨186, zf_zm_5_91 env, zpc_c⟩,
  Or.inl ⟨188, zf_zm_5_92 env, zpc_c⟩,
  Or.inl ⟨191, zf_zm_5_93 env, zpc_c⟩,
  Or.inl ⟨191, zf_zm_5_94 env, zpc_c⟩,
  Or.inl ⟨191, zf_zm_5_95 env, zpc_c⟩,
  Or.inl ⟨191, zf_zm_5_96 env, zpc_c⟩,
  Or.inl ⟨191, zf_zm_5_97 env, zpc_c⟩,
  Or.inl ⟨191, zf_zm_5_98 env, zpc_c⟩,
  Or.inl ⟨192, zf_zm_5_99 env, zpc_c⟩,
  Or.inl ⟨193, zf_zm_5_100 env, zpc_c⟩,
  Or.inl ⟨194, zf_zm_5_101 env, zpc_c⟩,
  Or.inl ⟨195, zf_zm_5_102 env, zpc_c⟩,
  Or.inr (Or.inr (Or.inr ⟨195, zf_zm_5_103 env, zpc_c⟩)),
  Or.inl ⟨196, zf_zm_5_104 env, zpc_c⟩,
  Or.inl ⟨198, zf_zm_5_105 env, zpc_c⟩,
  Or.inl ⟨201, zf_zm_5_106 env, zpc_c⟩,
  Or.inl ⟨242, zf_zm_5_107 env, zpc_c⟩,
  Or.inr (Or.inl (zf_zm_5_108 env)), trivial⟩
