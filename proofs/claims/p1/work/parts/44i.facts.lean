/-! FACTS (by program) -/
theorem zf_zm_6_0 (env : List (Nat × Nat)) : zI9 6 zY_6 zm_6 env (0, 0, 0, 0, 0) 1 := zi_aload_n (by decide +kernel : decode zY_6.2.1 0 = .ok (.aload_n 0, 1)) rfl
theorem zf_zm_6_1 (env : List (Nat × Nat)) : zI9 6 zY_6 zm_6 env (1, 60, 0, 0, 0) 4 := zi_obj (i := 3) (by decide +kernel : decode zY_6.2.1 1 = .ok (.invokespecial 3, 3)) (zw_T zwd_35) (zw_T zwd_11) (zw_T zwd_12)
theorem zf_zm_6_2 (env : List (Nat × Nat)) : zI9 6 zY_6 zm_6 env (4, 0, 0, 0, 0) 5 := zi_aload_n (by decide +kernel : decode zY_6.2.1 4 = .ok (.aload_n 0, 1)) rfl
theorem zf_zm_6_3 (env : List (Nat × Nat)) : zI9 6 zY_6 zm_6 env (5, 2, 32, 0, 0) 7 := zi_bipush (by decide +kernel : decode zY_6.2.1 5 = .ok (.bipush 32, 2)) (by decide +kernel)
theorem zf_zm_6_4 (env : List (Nat × Nat)) : zI9 6 zY_6 zm_6 env (7, 12, 1, 3, 0) 9 := zi_newL (by decide +kernel : decode zY_6.2.1 7 = .ok (.newarray .long, 2)) (zw_T zwd_13) rfl rfl
theorem zf_zm_6_5 (env : List (Nat × Nat)) : zI9 6 zY_6 zm_6 env (9, 4, 19, 0, 2) 12 := zi_putfF (i := 9) (N := 56) (C := "TransportPairModel$Streams") (ref := "TransportPairModel$Streams") (T := zF_19) (by decide +kernel : decode zY_6.2.1 9 = .ok (.putfield 9, 3)) rfl zuw_19 zFt_19 zFn_19 (by decide) (zw_T zwd_36) rfl rfl rfl rfl (ty := .array .long) (by decide +kernel) (Or.inr ⟨_, rfl⟩)
theorem zf_zm_6_6 (env : List (Nat × Nat)) : zI9 6 zY_6 zm_6 env (12, 0, 0, 0, 0) 13 := zi_aload_n (by decide +kernel : decode zY_6.2.1 12 = .ok (.aload_n 0, 1)) rfl
theorem zf_zm_6_7 (env : List (Nat × Nat)) : zI9 6 zY_6 zm_6 env (13, 2, 32, 0, 0) 15 := zi_bipush (by decide +kernel : decode zY_6.2.1 13 = .ok (.bipush 32, 2)) (by decide +kernel)
theorem zf_zm_6_8 (env : List (Nat × Nat)) : zI9 6 zY_6 zm_6 env (15, 12, 1, 3, 0) 17 := zi_newL (by decide +kernel : decode zY_6.2.1 15 = .ok (.newarray .long, 2)) (zw_T zwd_13) rfl rfl
theorem zf_zm_6_9 (env : List (Nat × Nat)) : zI9 6 zY_6 zm_6 env (17, 4, 19, 1, 2) 20 := zi_putfF (i := 15) (N := 56) (C := "TransportPairModel$Streams") (ref := "TransportPairModel$Streams") (T := zF_19) (by decide +kernel : decode zY_6.2.1 17 = .ok (.putfield 15, 3)) rfl zuw_19 zFt_19 zFn_19 (by decide) (zw_T zwd_37) rfl rfl rfl rfl (ty := .array .long) (by decide +kernel) (Or.inr ⟨_, rfl⟩)
theorem zf_zm_6_10 (env : List (Nat × Nat)) : zI9 6 zY_6 zm_6 env (20, 0, 0, 0, 0) 21 := zi_aload_n (by decide +kernel : decode zY_6.2.1 20 = .ok (.aload_n 0, 1)) rfl
theorem zf_zm_6_11 (env : List (Nat × Nat)) : zI9 6 zY_6 zm_6 env (21, 2, 6, 0, 0) 23 := zi_bipush (by decide +kernel : decode zY_6.2.1 21 = .ok (.bipush 6, 2)) (by decide +kernel)
theorem zf_zm_6_12 (env : List (Nat × Nat)) : zI9 6 zY_6 zm_6 env (23, 12, 1, 3, 0) 25 := zi_newL (by decide +kernel : decode zY_6.2.1 23 = .ok (.newarray .long, 2)) (zw_T zwd_13) rfl rfl
theorem zf_zm_6_13 (env : List (Nat × Nat)) : zI9 6 zY_6 zm_6 env (25, 4, 19, 2, 2) 28 := zi_putfF (i := 18) (N := 56) (C := "TransportPairModel$Streams") (ref := "TransportPairModel$Streams") (T := zF_19) (by decide +kernel : decode zY_6.2.1 25 = .ok (.putfield 18, 3)) rfl zuw_19 zFt_19 zFn_19 (by decide) (zw_T zwd_38) rfl rfl rfl rfl (ty := .array .long) (by decide +kernel) (Or.inr ⟨_, rfl⟩)
theorem zf_zm_6_14 (env : List (Nat × Nat)) : zI9 6 zY_6 zm_6 env (28, 0, 0, 0, 0) 29 := zi_aload_n (by decide +kernel : decode zY_6.2.1 28 = .ok (.aload_n 0, 1)) rfl
theorem zf_zm_6_15 (env : List (Nat × Nat)) : zI9 6 zY_6 zm_6 env (29, 2, 6, 0, 0) 31 := zi_bipush (by decide +kernel : decode zY_6.2.1 29 = .ok (.bipush 6, 2)) (by decide +kernel)
theorem zf_zm_6_16 (env : List (Nat × Nat)) : zI9 6 zY_6 zm_6 env (31, 12, 1, 3, 0) 33 := zi_newL (by decide +kernel : decode zY_6.2.1 31 = .ok (.newarray .long, 2)) (zw_T zwd_13) rfl rfl
theorem zf_zm_6_17 (env : List (Nat × Nat)) : zI9 6 zY_6 zm_6 env (33, 4, 19, 3, 2) 36 := zi_putfF (i := 21) (N := 56) (C := "TransportPairModel$Streams") (ref := "TransportPairModel$Streams") (T := zF_19) (by decide +kernel : decode zY_6.2.1 33 = .ok (.putfield 21, 3)) rfl zuw_19 zFt_19 zFn_19 (by decide) (zw_T zwd_39) rfl rfl rfl rfl (ty := .array .long) (by decide +kernel) (Or.inr ⟨_, rfl⟩)
theorem zf_zm_6_18 (env : List (Nat × Nat)) : zI9 6 zY_6 zm_6 env (36, 0, 0, 0, 0) 37 := zi_aload_n (by decide +kernel : decode zY_6.2.1 36 = .ok (.aload_n 0, 1)) rfl
theorem zf_zm_6_19 (env : List (Nat × Nat)) : zI9 6 zY_6 zm_6 env (37, 2, 4, 0, 0) 38 := zi_iconst (by decide +kernel : decode zY_6.2.1 37 = .ok (.iconst 4, 1)) (by decide +kernel)
theorem zf_zm_6_20 (env : List (Nat × Nat)) : zI9 6 zY_6 zm_6 env (38, 12, 0, 0, 0) 40 := zi_newI (by decide +kernel : decode zY_6.2.1 38 = .ok (.newarray .int, 2)) (zw_T zwd_16) rfl rfl (by decide) rfl
theorem zf_zm_6_21 (env : List (Nat × Nat)) : zI9 6 zY_6 zm_6 env (40, 4, 19, 4, 2) 43 := zi_putfF (i := 24) (N := 56) (C := "TransportPairModel$Streams") (ref := "TransportPairModel$Streams") (T := zF_19) (by decide +kernel : decode zY_6.2.1 40 = .ok (.putfield 24, 3)) rfl zuw_19 zFt_19 zFn_19 (by decide) (zw_T zwd_40) rfl rfl rfl rfl (ty := .array .int) (by decide +kernel) (Or.inr ⟨_, rfl⟩)
theorem zf_zm_6_22 (env : List (Nat × Nat)) : zI9 6 zY_6 zm_6 env (43, 0, 0, 0, 0) 44 := zi_aload_n (by decide +kernel : decode zY_6.2.1 43 = .ok (.aload_n 0, 1)) rfl
theorem zf_zm_6_23 (env : List (Nat × Nat)) : zI9 6 zY_6 zm_6 env (44, 2, 4, 0, 0) 45 := zi_iconst (by decide +kernel : decode zY_6.2.1 44 = .ok (.iconst 4, 1)) (by decide +kernel)
theorem zf_zm_6_24 (env : List (Nat × Nat)) : zI9 6 zY_6 zm_6 env (45, 12, 0, 0, 0) 47 := zi_newI (by decide +kernel : decode zY_6.2.1 45 = .ok (.newarray .int, 2)) (zw_T zwd_16) rfl rfl (by decide) rfl
theorem zf_zm_6_25 (env : List (Nat × Nat)) : zI9 6 zY_6 zm_6 env (47, 4, 19, 5, 2) 50 := zi_putfF (i := 28) (N := 56) (C := "TransportPairModel$Streams") (ref := "TransportPairModel$Streams") (T := zF_19) (by decide +kernel : decode zY_6.2.1 47 = .ok (.putfield 28, 3)) rfl zuw_19 zFt_19 zFn_19 (by decide) (zw_T zwd_41) rfl rfl rfl rfl (ty := .array .int) (by decide +kernel) (Or.inr ⟨_, rfl⟩)
theorem zf_zm_6_26 (env : List (Nat × Nat)) : zI9 6 zY_6 zm_6 env (50, 0, 0, 0, 0) 51 := zi_aload_n (by decide +kernel : decode zY_6.2.1 50 = .ok (.aload_n 0, 1)) rfl
theorem zf_zm_6_27 (env : List (Nat × Nat)) : zI9 6 zY_6 zm_6 env (51, 2, 4, 0, 0) 52 := zi_iconst (by decide +kernel : decode zY_6.2.1 51 = .ok (.iconst 4, 1)) (by decide +kernel)
theorem zf_zm_6_28 (env : List (Nat × Nat)) : zI9 6 zY_6 zm_6 env (52, 12, 0, 0, 0) 54 := zi_newI (by decide +kernel : decode zY_6.2.1 52 = .ok (.newarray .int, 2)) (zw_T zwd_16) rfl rfl (by decide) rfl
theorem zf_zm_6_29 (env : List (Nat × Nat)) : zI9 6 zY_6 zm_6 env (54, 4, 19, 6, 2) 57 := zi_putfF (i := 31) (N := 56) (C := "TransportPairModel$Streams") (ref := "TransportPairModel$Streams") (T := zF_19) (by decide +kernel : decode zY_6.2.1 54 = .ok (.putfield 31, 3)) rfl zuw_19 zFt_19 zFn_19 (by decide) (zw_T zwd_42) rfl rfl rfl rfl (ty := .array .int) (by decide +kernel) (Or.inr ⟨_, rfl⟩)
theorem zf_zm_6_30 (env : List (Nat × Nat)) : zI9 6 zY_6 zm_6 env (57, 0, 0, 0, 0) 58 := zi_aload_n (by decide +kernel : decode zY_6.2.1 57 = .ok (.aload_n 0, 1)) rfl
theorem zf_zm_6_31 (env : List (Nat × Nat)) : zI9 6 zY_6 zm_6 env (58, 2, 4, 0, 0) 59 := zi_iconst (by decide +kernel : decode zY_6.2.1 58 = .ok (.iconst 4, 1)) (by decide +kernel)
theorem zf_zm_6_32 (env : List (Nat × Nat)) : zI9 6 zY_6 zm_6 env (59, 12, 0, 2, 0) 61 := zi_newI (by decide +kernel : decode zY_6.2.1 59 = .ok (.newarray .boolean, 2)) (zw_T zwd_43) rfl rfl (by decide) rfl
theorem zf_zm_6_33 (env : List (Nat × Nat)) : zI9 6 zY_6 zm_6 env (61, 4, 19, 7, 2) 64 := zi_putfF (i := 34) (N := 56) (C := "TransportPairModel$Streams") (ref := "TransportPairModel$Streams") (T := zF_19) (by decide +kernel : decode zY_6.2.1 61 = .ok (.putfield 34, 3)) rfl zuw_19 zFt_19 zFn_19 (by decide) (zw_T zwd_44) rfl rfl rfl rfl (ty := .array .boolean) (by decide +kernel) (Or.inr ⟨_, rfl⟩)
theorem zf_zm_6_34 (env : List (Nat × Nat)) : zI9 6 zY_6 zm_6 env (64, 0, 0, 0, 0) 65 := zi_aload_n (by decide +kernel : decode zY_6.2.1 64 = .ok (.aload_n 0, 1)) rfl
theorem zf_zm_6_35 (env : List (Nat × Nat)) : zI9 6 zY_6 zm_6 env (65, 2, 4, 0, 0) 66 := zi_iconst (by decide +kernel : decode zY_6.2.1 65 = .ok (.iconst 4, 1)) (by decide +kernel)
theorem zf_zm_6_36 (env : List (Nat × Nat)) : zI9 6 zY_6 zm_6 env (66, 12, 0, 2, 0) 68 := zi_newI (by decide +kernel : decode zY_6.2.1 66 = .ok (.newarray .boolean, 2)) (zw_T zwd_43) rfl rfl (by decide) rfl
theorem zf_zm_6_37 (env : List (Nat × Nat)) : zI9 6 zY_6 zm_6 env (68, 4, 19, 8, 2) 71 := zi_putfF (i := 38) (N := 56) (C := "TransportPairModel$Streams") (ref := "TransportPairModel$Streams") (T := zF_19) (by decide +kernel : decode zY_6.2.1 68 = .ok (.putfield 38, 3)) rfl zuw_19 zFt_19 zFn_19 (by decide) (zw_T zwd_45) rfl rfl rfl rfl (ty := .array .boolean) (by decide +kernel) (Or.inr ⟨_, rfl⟩)
theorem zf_zm_6_38 (env : List (Nat × Nat)) : zI9 6 zY_6 zm_6 env (71, 0, 0, 0, 0) 72 := zi_aload_n (by decide +kernel : decode zY_6.2.1 71 = .ok (.aload_n 0, 1)) rfl
theorem zf_zm_6_39 (env : List (Nat × Nat)) : zI9 6 zY_6 zm_6 env (72, 2, 2, 0, 0) 73 := zi_iconst (by decide +kernel : decode zY_6.2.1 72 = .ok (.iconst 2, 1)) (by decide +kernel)
theorem zf_zm_6_40 (env : List (Nat × Nat)) : zI9 6 zY_6 zm_6 env (73, 12, 1, 3, 0) 75 := zi_newL (by decide +kernel : decode zY_6.2.1 73 = .ok (.newarray .long, 2)) (zw_T zwd_13) rfl rfl
theorem zf_zm_6_41 (env : List (Nat × Nat)) : zI9 6 zY_6 zm_6 env (75, 4, 19, 9, 2) 78 := zi_putfF (i := 41) (N := 56) (C := "TransportPairModel$Streams") (ref := "TransportPairModel$Streams") (T := zF_19) (by decide +kernel : decode zY_6.2.1 75 = .ok (.putfield 41, 3)) rfl zuw_19 zFt_19 zFn_19 (by decide) (zw_T zwd_46) rfl rfl rfl rfl (ty := .array .long) (by decide +kernel) (Or.inr ⟨_, rfl⟩)
theorem zf_zm_6_42 (env : List (Nat × Nat)) : zI9 6 zY_6 zm_6 env (78, 0, 0, 0, 0) 79 := zi_aload_n (by decide +kernel : decode zY_6.2.1 78 = .ok (.aload_n 0, 1)) rfl
theorem zf_zm_6_43 (env : List (Nat × Nat)) : zI9 6 zY_6 zm_6 env (79, 2, 2, 0, 0) 80 := zi_iconst (by decide +kernel : decode zY_6.2.1 79 = .ok (.iconst 2, 1)) (by decide +kernel)
theorem zf_zm_6_44 (env : List (Nat × Nat)) : zI9 6 zY_6 zm_6 env (80, 12, 0, 2, 0) 82 := zi_newI (by decide +kernel : decode zY_6.2.1 80 = .ok (.newarray .boolean, 2)) (zw_T zwd_43) rfl rfl (by decide) rfl
theorem zf_zm_6_45 (env : List (Nat × Nat)) : zI9 6 zY_6 zm_6 env (82, 4, 19, 10, 2) 85 := zi_putfF (i := 44) (N := 56) (C := "TransportPairModel$Streams") (ref := "TransportPairModel$Streams") (T := zF_19) (by decide +kernel : decode zY_6.2.1 82 = .ok (.putfield 44, 3)) rfl zuw_19 zFt_19 zFn_19 (by decide) (zw_T zwd_47) rfl rfl rfl rfl (ty := .array .boolean) (by decide +kernel) (Or.inr ⟨_, rfl⟩)
theorem zf_zm_6_46 (env : List (Nat × Nat)) : zI9 6 zY_6 zm_6 env (85, 0, 0, 0, 0) 86 := zi_aload_n (by decide +kernel : decode zY_6.2.1 85 = .ok (.aload_n 0, 1)) rfl
theorem zf_zm_6_47 (env : List (Nat × Nat)) : zI9 6 zY_6 zm_6 env (86, 2, 2, 0, 0) 87 := zi_iconst (by decide +kernel : decode zY_6.2.1 86 = .ok (.iconst 2, 1)) (by decide +kernel)
theorem zf_zm_6_48 (env : List (Nat × Nat)) : zI9 6 zY_6 zm_6 env (87, 12, 0, 0, 0) 89 := zi_newI (by decide +kernel : decode zY_6.2.1 87 = .ok (.newarray .int, 2)) (zw_T zwd_16) rfl rfl (by decide) rfl
theorem zf_zm_6_49 (env : List (Nat × Nat)) : zI9 6 zY_6 zm_6 env (89, 4, 19, 11, 2) 92 := zi_putfF (i := 47) (N := 56) (C := "TransportPairModel$Streams") (ref := "TransportPairModel$Streams") (T := zF_19) (by decide +kernel : decode zY_6.2.1 89 = .ok (.putfield 47, 3)) rfl zuw_19 zFt_19 zFn_19 (by decide) (zw_T zwd_48) rfl rfl rfl rfl (ty := .array .int) (by decide +kernel) (Or.inr ⟨_, rfl⟩)
theorem zf_zm_6_50 (env : List (Nat × Nat)) : zI9 6 zY_6 zm_6 env (92, 0, 0, 0, 0) 93 := zi_aload_n (by decide +kernel : decode zY_6.2.1 92 = .ok (.aload_n 0, 1)) rfl
theorem zf_zm_6_51 (env : List (Nat × Nat)) : zI9 6 zY_6 zm_6 env (93, 2, 512, 0, 0) 96 := zi_sipush (by decide +kernel : decode zY_6.2.1 93 = .ok (.sipush 512, 3)) (by decide +kernel)
theorem zf_zm_6_52 (env : List (Nat × Nat)) : zI9 6 zY_6 zm_6 env (96, 12, 0, 2, 0) 98 := zi_newI (by decide +kernel : decode zY_6.2.1 96 = .ok (.newarray .boolean, 2)) (zw_T zwd_43) rfl rfl (by decide) rfl
theorem zf_zm_6_53 (env : List (Nat × Nat)) : zI9 6 zY_6 zm_6 env (98, 4, 19, 12, 2) 101 := zi_putfF (i := 50) (N := 56) (C := "TransportPairModel$Streams") (ref := "TransportPairModel$Streams") (T := zF_19) (by decide +kernel : decode zY_6.2.1 98 = .ok (.putfield 50, 3)) rfl zuw_19 zFt_19 zFn_19 (by decide) (zw_T zwd_49) rfl rfl rfl rfl (ty := .array .boolean) (by decide +kernel) (Or.inr ⟨_, rfl⟩)
theorem zf_zm_6_54 (env : List (Nat × Nat)) : zI9 6 zY_6 zm_6 env (101, 0, 0, 0, 0) 102 := zi_aload_n (by decide +kernel : decode zY_6.2.1 101 = .ok (.aload_n 0, 1)) rfl
theorem zf_zm_6_55 (env : List (Nat × Nat)) : zI9 6 zY_6 zm_6 env (102, 2, 512, 0, 0) 105 := zi_sipush (by decide +kernel : decode zY_6.2.1 102 = .ok (.sipush 512, 3)) (by decide +kernel)
theorem zf_zm_6_56 (env : List (Nat × Nat)) : zI9 6 zY_6 zm_6 env (105, 12, 1, 3, 0) 107 := zi_newL (by decide +kernel : decode zY_6.2.1 105 = .ok (.newarray .long, 2)) (zw_T zwd_13) rfl rfl
theorem zf_zm_6_57 (env : List (Nat × Nat)) : zI9 6 zY_6 zm_6 env (107, 4, 19, 13, 2) 110 := zi_putfF (i := 53) (N := 56) (C := "TransportPairModel$Streams") (ref := "TransportPairModel$Streams") (T := zF_19) (by decide +kernel : decode zY_6.2.1 107 = .ok (.putfield 53, 3)) rfl zuw_19 zFt_19 zFn_19 (by decide) (zw_T zwd_50) rfl rfl rfl rfl (ty := .array .long) (by decide +kernel) (Or.inr ⟨_, rfl⟩)
theorem zf_zm_6_58 (env : List (Nat × Nat)) : zI9 6 zY_6 zm_6 env (110, 0, 0, 0, 0) 111 := zi_aload_n (by decide +kernel : decode zY_6.2.1 110 = .ok (.aload_n 0, 1)) rfl
theorem zf_zm_6_59 (env : List (Nat × Nat)) : zI9 6 zY_6 zm_6 env (111, 2, 512, 0, 0) 114 := zi_sipush (by decide +kernel : decode zY_6.2.1 111 = .ok (.sipush 512, 3)) (by decide +kernel)
theorem zf_zm_6_60 (env : List (Nat × Nat)) : zI9 6 zY_6 zm_6 env (114, 12, 0, 2, 0) 116 := zi_newI (by decide +kernel : decode zY_6.2.1 114 = .ok (.newarray .boolean, 2)) (zw_T zwd_43) rfl rfl (by decide) rfl
theorem zf_zm_6_61 (env : List (Nat × Nat)) : zI9 6 zY_6 zm_6 env (116, 4, 19, 14, 2) 119 := zi_putfF (i := 56) (N := 56) (C := "TransportPairModel$Streams") (ref := "TransportPairModel$Streams") (T := zF_19) (by decide +kernel : decode zY_6.2.1 116 = .ok (.putfield 56, 3)) rfl zuw_19 zFt_19 zFn_19 (by decide) (zw_T zwd_51) rfl rfl rfl rfl (ty := .array .boolean) (by decide +kernel) (Or.inr ⟨_, rfl⟩)
theorem zf_zm_6_62 (env : List (Nat × Nat)) : zI9 6 zY_6 zm_6 env (119, 0, 0, 0, 0) 120 := zi_aload_n (by decide +kernel : decode zY_6.2.1 119 = .ok (.aload_n 0, 1)) rfl
theorem zf_zm_6_63 (env : List (Nat × Nat)) : zI9 6 zY_6 zm_6 env (120, 2, 512, 0, 0) 123 := zi_sipush (by decide +kernel : decode zY_6.2.1 120 = .ok (.sipush 512, 3)) (by decide +kernel)
theorem zf_zm_6_64 (env : List (Nat × Nat)) : zI9 6 zY_6 zm_6 env (123, 12, 0, 0, 0) 125 := zi_newI (by decide +kernel : decode zY_6.2.1 123 = .ok (.newarray .int, 2)) (zw_T zwd_16) rfl rfl (by decide) rfl
theorem zf_zm_6_65 (env : List (Nat × Nat)) : zI9 6 zY_6 zm_6 env (125, 4, 19, 15, 2) 128 := zi_putfF (i := 59) (N := 56) (C := "TransportPairModel$Streams") (ref := "TransportPairModel$Streams") (T := zF_19) (by decide +kernel : decode zY_6.2.1 125 = .ok (.putfield 59, 3)) rfl zuw_19 zFt_19 zFn_19 (by decide) (zw_T zwd_52) rfl rfl rfl rfl (ty := .array .int) (by decide +kernel) (Or.inr ⟨_, rfl⟩)
theorem zf_zm_6_66 (env : List (Nat × Nat)) : zI9 6 zY_6 zm_6 env (128, 0, 0, 0, 0) 129 := zi_aload_n (by decide +kernel : decode zY_6.2.1 128 = .ok (.aload_n 0, 1)) rfl
theorem zf_zm_6_67 (env : List (Nat × Nat)) : zI9 6 zY_6 zm_6 env (129, 2, 512, 0, 0) 132 := zi_sipush (by decide +kernel : decode zY_6.2.1 129 = .ok (.sipush 512, 3)) (by decide +kernel)
theorem zf_zm_6_68 (env : List (Nat × Nat)) : zI9 6 zY_6 zm_6 env (132, 12, 0, 0, 0) 134 := zi_newI (by decide +kernel : decode zY_6.2.1 132 = .ok (.newarray .int, 2)) (zw_T zwd_16) rfl rfl (by decide) rfl
theorem zf_zm_6_69 (env : List (Nat × Nat)) : zI9 6 zY_6 zm_6 env (134, 4, 19, 16, 2) 137 := zi_putfF (i := 62) (N := 56) (C := "TransportPairModel$Streams") (ref := "TransportPairModel$Streams") (T := zF_19) (by decide +kernel : decode zY_6.2.1 134 = .ok (.putfield 62, 3)) rfl zuw_19 zFt_19 zFn_19 (by decide) (zw_T zwd_53) rfl rfl rfl rfl (ty := .array .int) (by decide +kernel) (Or.inr ⟨_, rfl⟩)
theorem zf_zm_6_70 (env : List (Nat × Nat)) : zI9 6 zY_6 zm_6 env (137, 0, 0, 0, 0) 138 := zi_aload_n (by decide +kernel : decode zY_6.2.1 137 = .ok (.aload_n 0, 1)) rfl
theorem zf_zm_6_71 (env : List (Nat × Nat)) : zI9 6 zY_6 zm_6 env (138, 2, 512, 0, 0) 141 := zi_sipush (by decide +kernel : decode zY_6.2.1 138 = .ok (.sipush 512, 3)) (by decide +kernel)
theorem zf_zm_6_72 (env : List (Nat × Nat)) : zI9 6 zY_6 zm_6 env (141, 12, 0, 2, 0) 143 := zi_newI (by decide +kernel : decode zY_6.2.1 141 = .ok (.newarray .boolean, 2)) (zw_T zwd_43) rfl rfl (by decide) rfl
theorem zf_zm_6_73 (env : List (Nat × Nat)) : zI9 6 zY_6 zm_6 env (143, 4, 19, 17, 2) 146 := zi_putfF (i := 65) (N := 56) (C := "TransportPairModel$Streams") (ref := "TransportPairModel$Streams") (T := zF_19) (by decide +kernel : decode zY_6.2.1 143 = .ok (.putfield 65, 3)) rfl zuw_19 zFt_19 zFn_19 (by decide) (zw_T zwd_54) rfl rfl rfl rfl (ty := .array .boolean) (by decide +kernel) (Or.inr ⟨_, rfl⟩)
theorem zf_zm_6_74 (env : List (Nat × Nat)) : zI9 6 zY_6 zm_6 env (146, 0, 0, 0, 0) 147 := zi_aload_n (by decide +kernel : decode zY_6.2.1 146 = .ok (.aload_n 0, 1)) rfl
theorem zf_zm_6_75 (env : List (Nat × Nat)) : zI9 6 zY_6 zm_6 env (147, 2, 512, 0, 0) 150 := zi_sipush (by decide +kernel : decode zY_6.2.1 147 = .ok (.sipush 512, 3)) (by decide +kernel)
theorem zf_zm_6_76 (env : List (Nat × Nat)) : zI9 6 zY_6 zm_6 env (150, 12, 1, 3, 0) 152 := zi_newL (by decide +kernel : decode zY_6.2.1 150 = .ok (.newarray .long, 2)) (zw_T zwd_13) rfl rfl
theorem zf_zm_6_77 (env : List (Nat × Nat)) : zI9 6 zY_6 zm_6 env (152, 4, 19, 18, 2) 155 := zi_putfF (i := 68) (N := 56) (C := "TransportPairModel$Streams") (ref := "TransportPairModel$Streams") (T := zF_19) (by decide +kernel : decode zY_6.2.1 152 = .ok (.putfield 68, 3)) rfl zuw_19 zFt_19 zFn_19 (by decide) (zw_T zwd_55) rfl rfl rfl rfl (ty := .array .long) (by decide +kernel) (Or.inr ⟨_, rfl⟩)
theorem zf_zm_6_78 (env : List (Nat × Nat)) : zI9 6 zY_6 zm_6 env (155, 0, 0, 0, 0) 156 := zi_aload_n (by decide +kernel : decode zY_6.2.1 155 = .ok (.aload_n 0, 1)) rfl
theorem zf_zm_6_79 (env : List (Nat × Nat)) : zI9 6 zY_6 zm_6 env (156, 2, 512, 0, 0) 159 := zi_sipush (by decide +kernel : decode zY_6.2.1 156 = .ok (.sipush 512, 3)) (by decide +kernel)
theorem zf_zm_6_80 (env : List (Nat × Nat)) : zI9 6 zY_6 zm_6 env (159, 12, 1, 3, 0) 161 := zi_newL (by decide +kernel : decode zY_6.2.1 159 = .ok (.newarray .long, 2)) (zw_T zwd_13) rfl rfl
theorem zf_zm_6_81 (env : List (Nat × Nat)) : zI9 6 zY_6 zm_6 env (161, 4, 19, 19, 2) 164 := zi_putfF (i := 71) (N := 56) (C := "TransportPairModel$Streams") (ref := "TransportPairModel$Streams") (T := zF_19) (by decide +kernel : decode zY_6.2.1 161 = .ok (.putfield 71, 3)) rfl zuw_19 zFt_19 zFn_19 (by decide) (zw_T zwd_56) rfl rfl rfl rfl (ty := .array .long) (by decide +kernel) (Or.inr ⟨_, rfl⟩)
theorem zf_zm_6_82 (env : List (Nat × Nat)) : zI9 6 zY_6 zm_6 env (164, 0, 0, 0, 0) 165 := zi_aload_n (by decide +kernel : decode zY_6.2.1 164 = .ok (.aload_n 0, 1)) rfl
theorem zf_zm_6_83 (env : List (Nat × Nat)) : zI9 6 zY_6 zm_6 env (165, 2, 512, 0, 0) 168 := zi_sipush (by decide +kernel : decode zY_6.2.1 165 = .ok (.sipush 512, 3)) (by decide +kernel)
theorem zf_zm_6_84 (env : List (Nat × Nat)) : zI9 6 zY_6 zm_6 env (168, 12, 0, 0, 0) 170 := zi_newI (by decide +kernel : decode zY_6.2.1 168 = .ok (.newarray .int, 2)) (zw_T zwd_16) rfl rfl (by decide) rfl
theorem zf_zm_6_85 (env : List (Nat × Nat)) : zI9 6 zY_6 zm_6 env (170, 4, 19, 20, 2) 173 := zi_putfF (i := 74) (N := 56) (C := "TransportPairModel$Streams") (ref := "TransportPairModel$Streams") (T := zF_19) (by decide +kernel : decode zY_6.2.1 170 = .ok (.putfield 74, 3)) rfl zuw_19 zFt_19 zFn_19 (by decide) (zw_T zwd_57) rfl rfl rfl rfl (ty := .array .int) (by decide +kernel) (Or.inr ⟨_, rfl⟩)
theorem zf_zm_6_86 (env : List (Nat × Nat)) : zI9 6 zY_6 zm_6 env (173, 0, 0, 0, 0) 174 := zi_aload_n (by decide +kernel : decode zY_6.2.1 173 = .ok (.aload_n 0, 1)) rfl
theorem zf_zm_6_87 (env : List (Nat × Nat)) : zI9 6 zY_6 zm_6 env (174, 2, 512, 0, 0) 177 := zi_sipush (by decide +kernel : decode zY_6.2.1 174 = .ok (.sipush 512, 3)) (by decide +kernel)
theorem zf_zm_6_88 (env : List (Nat × Nat)) : zI9 6 zY_6 zm_6 env (177, 12, 0, 0, 0) 179 := zi_newI (by decide +kernel : decode zY_6.2.1 177 = .ok (.newarray .int, 2)) (zw_T zwd_16) rfl rfl (by decide) rfl
theorem zf_zm_6_89 (env : List (Nat × Nat)) : zI9 6 zY_6 zm_6 env (179, 4, 19, 21, 2) 182 := zi_putfF (i := 77) (N := 56) (C := "TransportPairModel$Streams") (ref := "TransportPairModel$Streams") (T := zF_19) (by decide +kernel : decode zY_6.2.1 179 = .ok (.putfield 77, 3)) rfl zuw_19 zFt_19 zFn_19 (by decide) (zw_T zwd_58) rfl rfl rfl rfl (ty := .array .int) (by decide +kernel) (Or.inr ⟨_, rfl⟩)
theorem zf_zm_6_90 (env : List (Nat × Nat)) : zI9 6 zY_6 zm_6 env (182, 0, 0, 0, 0) 183 := zi_aload_n (by decide +kernel : decode zY_6.2.1 182 = .ok (.aload_n 0, 1)) rfl
theorem zf_zm_6_91 (env : List (Nat × Nat)) : zI9 6 zY_6 zm_6 env (183, 2, 512, 0, 0) 186 := zi_sipush (by decide +kernel : decode zY_6.2.1 183 = .ok (.sipush 512, 3)) (by decide +kernel)
theorem zf_zm_6_92 (env : List (Nat × Nat)) : zI9 6 zY_6 zm_6 env (186, 12, 0, 0, 0) 188 := zi_newI (by decide +kernel : decode zY_6.2.1 186 = .ok (.newarray .int, 2)) (zw_T zwd_16) rfl rfl (by decide) rfl
theorem zf_zm_6_93 (env : List (Nat × Nat)) : zI9 6 zY_6 zm_6 env (188, 4, 19, 22, 2) 191 := zi_putfF (i := 80) (N := 56) (C := "TransportPairModel$Streams") (ref := "TransportPairModel$Streams") (T := zF_19) (by decide +kernel : decode zY_6.2.1 188 = .ok (.putfield 80, 3)) rfl zuw_19 zFt_19 zFn_19 (by decide) (zw_T zwd_59) rfl rfl rfl rfl (ty := .array .int) (by decide +kernel) (Or.inr ⟨_, rfl⟩)
theorem zf_zm_6_94 (env : List (Nat × Nat)) : zI9 6 zY_6 zm_6 env (191, 0, 0, 0, 0) 192 := zi_aload_n (by decide +kernel : decode zY_6.2.1 191 = .ok (.aload_n 0, 1)) rfl
theorem zf_zm_6_95 (env : List (Nat × Nat)) : zI9 6 zY_6 zm_6 env (192, 2, 512, 0, 0) 195 := zi_sipush (by decide +kernel : decode zY_6.2.1 192 = .ok (.sipush 512, 3)) (by decide +kernel)
theorem zf_zm_6_96 (env : List (Nat × Nat)) : zI9 6 zY_6 zm_6 env (195, 12, 0, 0, 0) 197 := zi_newI (by decide +kernel : decode zY_6.2.1 195 = .ok (.newarray .int, 2)) (zw_T zwd_16) rfl rfl (by decide) rfl
theorem zf_zm_6_97 (env : List (Nat × Nat)) : zI9 6 zY_6 zm_6 env (197, 4, 19, 23, 2) 200 := zi_putfF (i := 83) (N := 56) (C := "TransportPairModel$Streams") (ref := "TransportPairModel$Streams") (T := zF_19) (by decide +kernel : decode zY_6.2.1 197 = .ok (.putfield 83, 3)) rfl zuw_19 zFt_19 zFn_19 (by decide) (zw_T zwd_60) rfl rfl rfl rfl (ty := .array .int) (by decide +kernel) (Or.inr ⟨_, rfl⟩)
theorem zf_zm_6_98 (env : List (Nat × Nat)) : zI9 6 zY_6 zm_6 env (200, 0, 0, 0, 0) 201 := zi_aload_n (by decide +kernel : decode zY_6.2.1 200 = .ok (.aload_n 0, 1)) rfl
theorem zf_zm_6_99 (env : List (Nat × Nat)) : zI9 6 zY_6 zm_6 env (201, 2, 512, 0, 0) 204 := zi_sipush (by decide +kernel : decode zY_6.2.1 201 = .ok (.sipush 512, 3)) (by decide +kernel)
theorem zf_zm_6_100 (env : List (Nat × Nat)) : zI9 6 zY_6 zm_6 env (204, 12, 0, 0, 0) 206 := zi_newI (by decide +kernel : decode zY_6.2.1 204 = .ok (.newarray .int, 2)) (zw_T zwd_16) rfl rfl (by decide) rfl
theorem zf_zm_6_101 (env : List (Nat × Nat)) : zI9 6 zY_6 zm_6 env (206, 4, 19, 24, 2) 209 := zi_putfF (i := 86) (N := 56) (C := "TransportPairModel$Streams") (ref := "TransportPairModel$Streams") (T := zF_19) (by decide +kernel : decode zY_6.2.1 206 = .ok (.putfield 86, 3)) rfl zuw_19 zFt_19 zFn_19 (by decide) (zw_T zwd_61) rfl rfl rfl rfl (ty := .array .int) (by decide +kernel) (Or.inr ⟨_, rfl⟩)
theorem zf_zm_6_102 (env : List (Nat × Nat)) : zI9 6 zY_6 zm_6 env (209, 0, 0, 0, 0) 210 := zi_aload_n (by decide +kernel : decode zY_6.2.1 209 = .ok (.aload_n 0, 1)) rfl
theorem zf_zm_6_103 (env : List (Nat × Nat)) : zI9 6 zY_6 zm_6 env (210, 2, 512, 0, 0) 213 := zi_sipush (by decide +kernel : decode zY_6.2.1 210 = .ok (.sipush 512, 3)) (by decide +kernel)
theorem zf_zm_6_104 (env : List (Nat × Nat)) : zI9 6 zY_6 zm_6 env (213, 12, 0, 0, 0) 215 := zi_newI (by decide +kernel : decode zY_6.2.1 213 = .ok (.newarray .int, 2)) (zw_T zwd_16) rfl rfl (by decide) rfl
theorem zf_zm_6_105 (env : List (Nat × Nat)) : zI9 6 zY_6 zm_6 env (215, 4, 19, 25, 2) 218 := zi_putfF (i := 89) (N := 56) (C := "TransportPairModel$Streams") (ref := "TransportPairModel$Streams") (T := zF_19) (by decide +kernel : decode zY_6.2.1 215 = .ok (.putfield 89, 3)) rfl zuw_19 zFt_19 zFn_19 (by decide) (zw_T zwd_62) rfl rfl rfl rfl (ty := .array .int) (by decide +kernel) (Or.inr ⟨_, rfl⟩)
theorem zf_zm_6_106 (env : List (Nat × Nat)) : zI9 6 zY_6 zm_6 env (218, 0, 0, 0, 0) 219 := zi_aload_n (by decide +kernel : decode zY_6.2.1 218 = .ok (.aload_n 0, 1)) rfl
theorem zf_zm_6_107 (env : List (Nat × Nat)) : zI9 6 zY_6 zm_6 env (219, 2, 512, 0, 0) 222 := zi_sipush (by decide +kernel : decode zY_6.2.1 219 = .ok (.sipush 512, 3)) (by decide +kernel)
theorem zf_zm_6_108 (env : List (Nat × Nat)) : zI9 6 zY_6 zm_6 env (222, 12, 0, 0, 0) 224 := zi_newI (by decide +kernel : decode zY_6.2.1 222 = .ok (.newarray .int, 2)) (zw_T zwd_16) rfl rfl (by decide) rfl
theorem zf_zm_6_109 (env : List (Nat × Nat)) : zI9 6 zY_6 zm_6 env (224, 4, 19, 26, 2) 227 := zi_putfF (i := 92) (N := 56) (C := "TransportPairModel$Streams") (ref := "TransportPairModel$Streams") (T := zF_19) (by decide +kernel : decode zY_6.2.1 224 = .ok (.putfield 92, 3)) rfl zuw_19 zFt_19 zFn_19 (by decide) (zw_T zwd_63) rfl rfl rfl rfl (ty := .array .int) (by decide +kernel) (Or.inr ⟨_, rfl⟩)
theorem zf_zm_6_110 (env : List (Nat × Nat)) : zI9 6 zY_6 zm_6 env (227, 0, 0, 0, 0) 228 := zi_aload_n (by decide +kernel : decode zY_6.2.1 227 = .ok (.aload_n 0, 1)) rfl
theorem zf_zm_6_111 (env : List (Nat × Nat)) : zI9 6 zY_6 zm_6 env (228, 2, 512, 0, 0) 231 := zi_sipush (by decide +kernel : decode zY_6.2.1 228 = .ok (.sipush 512, 3)) (by decide +kernel)
theorem zf_zm_6_112 (env : List (Nat × Nat)) : zI9 6 zY_6 zm_6 env (231, 12, 1, 3, 0) 233 := zi_newL (by decide +kernel : decode zY_6.2.1 231 = .ok (.newarray .long, 2)) (zw_T zwd_13) rfl rfl
theorem zf_zm_6_113 (env : List (Nat × Nat)) : zI9 6 zY_6 zm_6 env (233, 4, 19, 27, 2) 236 := zi_putfF (i := 95) (N := 56) (C := "TransportPairModel$Streams") (ref := "TransportPairModel$Streams") (T := zF_19) (by decide +kernel : decode zY_6.2.1 233 = .ok (.putfield 95, 3)) rfl zuw_19 zFt_19 zFn_19 (by decide) (zw_T zwd_64) rfl rfl rfl rfl (ty := .array .long) (by decide +kernel) (Or.inr ⟨_, rfl⟩)
theorem zf_zm_6_114 (env : List (Nat × Nat)) : zI9 6 zY_6 zm_6 env (236, 0, 0, 0, 0) 237 := zi_aload_n (by decide +kernel : decode zY_6.2.1 236 = .ok (.aload_n 0, 1)) rfl
theorem zf_zm_6_115 (env : List (Nat × Nat)) : zI9 6 zY_6 zm_6 env (237, 2, 512, 0, 0) 240 := zi_sipush (by decide +kernel : decode zY_6.2.1 237 = .ok (.sipush 512, 3)) (by decide +kernel)
theorem zf_zm_6_116 (env : List (Nat × Nat)) : zI9 6 zY_6 zm_6 env (240, 12, 1, 3, 0) 242 := zi_newL (by decide +kernel : decode zY_6.2.1 240 = .ok (.newarray .long, 2)) (zw_T zwd_13) rfl rfl
theorem zf_zm_6_117 (env : List (Nat × Nat)) : zI9 6 zY_6 zm_6 env (242, 4, 19, 28, 2) 245 := zi_putfF (i := 98) (N := 56) (C := "TransportPairModel$Streams") (ref := "TransportPairModel$Streams") (T := zF_19) (by decide +kernel : decode zY_6.2.1 242 = .ok (.putfield 98, 3)) rfl zuw_19 zFt_19 zFn_19 (by decide) (zw_T zwd_65) rfl rfl rfl rfl (ty := .array .long) (by decide +kernel) (Or.inr ⟨_, rfl⟩)
theorem zf_zm_6_118 (env : List (Nat × Nat)) : zI9 6 zY_6 zm_6 env (245, 0, 0, 0, 0) 246 := zi_aload_n (by decide +kernel : decode zY_6.2.1 245 = .ok (.aload_n 0, 1)) rfl
theorem zf_zm_6_119 (env : List (Nat × Nat)) : zI9 6 zY_6 zm_6 env (246, 2, 512, 0, 0) 249 := zi_sipush (by decide +kernel : decode zY_6.2.1 246 = .ok (.sipush 512, 3)) (by decide +kernel)
theorem zf_zm_6_120 (env : List (Nat × Nat)) : zI9 6 zY_6 zm_6 env (249, 12, 0, 0, 0) 251 := zi_newI (by decide +kernel : decode zY_6.2.1 249 = .ok (.newarray .int, 2)) (zw_T zwd_16) rfl rfl (by decide) rfl
theorem zf_zm_6_121 (env : List (Nat × Nat)) : zI9 6 zY_6 zm_6 env (251, 4, 19, 29, 2) 254 := zi_putfF (i := 101) (N := 56) (C := "TransportPairModel$Streams") (ref := "TransportPairModel$Streams") (T := zF_19) (by decide +kernel : decode zY_6.2.1 251 = .ok (.putfield 101, 3)) rfl zuw_19 zFt_19 zFn_19 (by decide) (zw_T zwd_66) rfl rfl rfl rfl (ty := .array .int) (by decide +kernel) (Or.inr ⟨_, rfl⟩)
theorem zf_zm_6_122 (env : List (Nat × Nat)) : zI9 6 zY_6 zm_6 env (254, 0, 0, 0, 0) 255 := zi_aload_n (by decide +kernel : decode zY_6.2.1 254 = .ok (.aload_n 0, 1)) rfl
theorem zf_zm_6_123 (env : List (Nat × Nat)) : zI9 6 zY_6 zm_6 env (255, 2, 512, 0, 0) 258 := zi_sipush (by decide +kernel : decode zY_6.2.1 255 = .ok (.sipush 512, 3)) (by decide +kernel)
theorem zf_zm_6_124 (env : List (Nat × Nat)) : zI9 6 zY_6 zm_6 env (258, 12, 0, 0, 0) 260 := zi_newI (by decide +kernel : decode zY_6.2.1 258 = .ok (.newarray .int, 2)) (zw_T zwd_16) rfl rfl (by decide) rfl
theorem zf_zm_6_125 (env : List (Nat × Nat)) : zI9 6 zY_6 zm_6 env (260, 4, 19, 30, 2) 263 := zi_putfF (i := 104) (N := 56) (C := "TransportPairModel$Streams") (ref := "TransportPairModel$Streams") (T := zF_19) (by decide +kernel : decode zY_6.2.1 260 = .ok (.putfield 104, 3)) rfl zuw_19 zFt_19 zFn_19 (by decide) (zw_T zwd_67) rfl rfl rfl rfl (ty := .array .int) (by decide +kernel) (Or.inr ⟨_, rfl⟩)
theorem zf_zm_6_126 (env : List (Nat × Nat)) : zI9 6 zY_6 zm_6 env (263, 0, 0, 0, 0) 264 := zi_aload_n (by decide +kernel : decode zY_6.2.1 263 = .ok (.aload_n 0, 1)) rfl
theorem zf_zm_6_127 (env : List (Nat × Nat)) : zI9 6 zY_6 zm_6 env (264, 2, 512, 0, 0) 267 := zi_sipush (by decide +kernel : decode zY_6.2.1 264 = .ok (.sipush 512, 3)) (by decide +kernel)
theorem zf_zm_6_128 (env : List (Nat × Nat)) : zI9 6 zY_6 zm_6 env (267, 12, 0, 2, 0) 269 := zi_newI (by decide +kernel : decode zY_6.2.1 267 = .ok (.newarray .boolean, 2)) (zw_T zwd_43) rfl rfl (by decide) rfl
theorem zf_zm_6_129 (env : List (Nat × Nat)) : zI9 6 zY_6 zm_6 env (269, 4, 19, 31, 2) 272 := zi_putfF (i := 107) (N := 56) (C := "TransportPairModel$Streams") (ref := "TransportPairModel$Streams") (T := zF_19) (by decide +kernel : decode zY_6.2.1 269 = .ok (.putfield 107, 3)) rfl zuw_19 zFt_19 zFn_19 (by decide) (zw_T zwd_68) rfl rfl rfl rfl (ty := .array .boolean) (by decide +kernel) (Or.inr ⟨_, rfl⟩)
theorem zf_zm_6_130 (env : List (Nat × Nat)) : zI9 6 zY_6 zm_6 env (272, 0, 0, 0, 0) 273 := zi_aload_n (by decide +kernel : decode zY_6.2.1 272 = .ok (.aload_n 0, 1)) rfl
theorem zf_zm_6_131 (env : List (Nat × Nat)) : zI9 6 zY_6 zm_6 env (273, 2, 512, 0, 0) 276 := zi_sipush (by decide +kernel : decode zY_6.2.1 273 = .ok (.sipush 512, 3)) (by decide +kernel)
theorem zf_zm_6_132 (env : List (Nat × Nat)) : zI9 6 zY_6 zm_6 env (276, 12, 1, 3, 0) 278 := zi_newL (by decide +kernel : decode zY_6.2.1 276 = .ok (.newarray .long, 2)) (zw_T zwd_13) rfl rfl
theorem zf_zm_6_133 (env : List (Nat × Nat)) : zI9 6 zY_6 zm_6 env (278, 4, 19, 32, 2) 281 := zi_putfF (i := 110) (N := 56) (C := "TransportPairModel$Streams") (ref := "TransportPairModel$Streams") (T := zF_19) (by decide +kernel : decode zY_6.2.1 278 = .ok (.putfield 110, 3)) rfl zuw_19 zFt_19 zFn_19 (by decide) (zw_T zwd_69) rfl rfl rfl rfl (ty := .array .long) (by decide +kernel) (Or.inr ⟨_, rfl⟩)
theorem zf_zm_6_134 (env : List (Nat × Nat)) : zI9 6 zY_6 zm_6 env (281, 0, 0, 0, 0) 282 := zi_aload_n (by decide +kernel : decode zY_6.2.1 281 = .ok (.aload_n 0, 1)) rfl
theorem zf_zm_6_135 (env : List (Nat × Nat)) : zI9 6 zY_6 zm_6 env (282, 2, 512, 0, 0) 285 := zi_sipush (by decide +kernel : decode zY_6.2.1 282 = .ok (.sipush 512, 3)) (by decide +kernel)
theorem zf_zm_6_136 (env : List (Nat × Nat)) : zI9 6 zY_6 zm_6 env (285, 12, 1, 3, 0) 287 := zi_newL (by decide +kernel : decode zY_6.2.1 285 = .ok (.newarray .long, 2)) (zw_T zwd_13) rfl rfl
theorem zf_zm_6_137 (env : List (Nat × Nat)) : zI9 6 zY_6 zm_6 env (287, 4, 19, 33, 2) 290 := zi_putfF (i := 113) (N := 56) (C := "TransportPairModel$Streams") (ref := "TransportPairModel$Streams") (T := zF_19) (by decide +kernel : decode zY_6.2.1 287 = .ok (.putfield 113, 3)) rfl zuw_19 zFt_19 zFn_19 (by decide) (zw_T zwd_70) rfl rfl rfl rfl (ty := .array .long) (by decide +kernel) (Or.inr ⟨_, rfl⟩)
theorem zf_zm_6_138 (env : List (Nat × Nat)) : zI9 6 zY_6 zm_6 env (290, 0, 0, 0, 0) 291 := zi_aload_n (by decide +kernel : decode zY_6.2.1 290 = .ok (.aload_n 0, 1)) rfl
theorem zf_zm_6_139 (env : List (Nat × Nat)) : zI9 6 zY_6 zm_6 env (291, 2, 512, 0, 0) 294 := zi_sipush (by decide +kernel : decode zY_6.2.1 291 = .ok (.sipush 512, 3)) (by decide +kernel)
theorem zf_zm_6_140 (env : List (Nat × Nat)) : zI9 6 zY_6 zm_6 env (294, 12, 0, 2, 0) 296 := zi_newI (by decide +kernel : decode zY_6.2.1 294 = .ok (.newarray .boolean, 2)) (zw_T zwd_43) rfl rfl (by decide) rfl
theorem zf_zm_6_141 (env : List (Nat × Nat)) : zI9 6 zY_6 zm_6 env (296, 4, 19, 34, 2) 299 := zi_putfF (i := 116) (N := 56) (C := "TransportPairModel$Streams") (ref := "TransportPairModel$Streams") (T := zF_19) (by decide +kernel : decode zY_6.2.1 296 = .ok (.putfield 116, 3)) rfl zuw_19 zFt_19 zFn_19 (by decide) (zw_T zwd_71) rfl rfl rfl rfl (ty := .array .boolean) (by decide +kernel) (Or.inr ⟨_, rfl⟩)
theorem zf_zm_6_142 (env : List (Nat × Nat)) : zI9 6 zY_6 zm_6 env (299, 0, 0, 0, 0) 300 := zi_aload_n (by decide +kernel : decode zY_6.2.1 299 = .ok (.aload_n 0, 1)) rfl
theorem zf_zm_6_143 (env : List (Nat × Nat)) : zI9 6 zY_6 zm_6 env (300, 2, 512, 0, 0) 303 := zi_sipush (by decide +kernel : decode zY_6.2.1 300 = .ok (.sipush 512, 3)) (by decide +kernel)
theorem zf_zm_6_144 (env : List (Nat × Nat)) : zI9 6 zY_6 zm_6 env (303, 12, 0, 2, 0) 305 := zi_newI (by decide +kernel : decode zY_6.2.1 303 = .ok (.newarray .boolean, 2)) (zw_T zwd_43) rfl rfl (by decide) rfl
theorem zf_zm_6_145 (env : List (Nat × Nat)) : zI9 6 zY_6 zm_6 env (305, 4, 19, 35, 2) 308 := zi_putfF (i := 119) (N := 56) (C := "TransportPairModel$Streams") (ref := "TransportPairModel$Streams") (T := zF_19) (by decide +kernel : decode zY_6.2.1 305 = .ok (.putfield 119, 3)) rfl zuw_19 zFt_19 zFn_19 (by decide) (zw_T zwd_72) rfl rfl rfl rfl (ty := .array .boolean) (by decide +kernel) (Or.inr ⟨_, rfl⟩)
theorem zf_zm_6_146 (env : List (Nat × Nat)) : zI9 6 zY_6 zm_6 env (308, 0, 0, 0, 0) 309 := zi_aload_n (by decide +kernel : decode zY_6.2.1 308 = .ok (.aload_n 0, 1)) rfl
theorem zf_zm_6_147 (env : List (Nat × Nat)) : zI9 6 zY_6 zm_6 env (309, 2, 512, 0, 0) 312 := zi_sipush (by decide +kernel : decode zY_6.2.1 309 = .ok (.sipush 512, 3)) (by decide +kernel)
theorem zf_zm_6_148 (env : List (Nat × Nat)) : zI9 6 zY_6 zm_6 env (312, 12, 0, 2, 0) 314 := zi_newI (by decide +kernel : decode zY_6.2.1 312 = .ok (.newarray .boolean, 2)) (zw_T zwd_43) rfl rfl (by decide) rfl
theorem zf_zm_6_149 (env : List (Nat × Nat)) : zI9 6 zY_6 zm_6 env (314, 4, 19, 36, 2) 317 := zi_putfF (i := 122) (N := 56) (C := "TransportPairModel$Streams") (ref := "TransportPairModel$Streams") (T := zF_19) (by decide +kernel : decode zY_6.2.1 314 = .ok (.putfield 122, 3)) rfl zuw_19 zFt_19 zFn_19 (by decide) (zw_T zwd_73) rfl rfl rfl rfl (ty := .array .boolean) (by decide +kernel) (Or.inr ⟨_, rfl⟩)
theorem zf_zm_6_150 (env : List (Nat × Nat)) : zI9 6 zY_6 zm_6 env (317, 0, 0, 0, 0) 318 := zi_aload_n (by decide +kernel : decode zY_6.2.1 317 = .ok (.aload_n 0, 1)) rfl
theorem zf_zm_6_151 (env : List (Nat × Nat)) : zI9 6 zY_6 zm_6 env (318, 2, 512, 0, 0) 321 := zi_sipush (by decide +kernel : decode zY_6.2.1 318 = .ok (.sipush 512, 3)) (by decide +kernel)
theorem zf_zm_6_152 (env : List (Nat × Nat)) : zI9 6 zY_6 zm_6 env (321, 12, 1, 3, 0) 323 := zi_newL (by decide +kernel : decode zY_6.2.1 321 = .ok (.newarray .long, 2)) (zw_T zwd_13) rfl rfl
theorem zf_zm_6_153 (env : List (Nat × Nat)) : zI9 6 zY_6 zm_6 env (323, 4, 19, 37, 2) 326 := zi_putfF (i := 125) (N := 56) (C := "TransportPairModel$Streams") (ref := "TransportPairModel$Streams") (T := zF_19) (by decide +kernel : decode zY_6.2.1 323 = .ok (.putfield 125, 3)) rfl zuw_19 zFt_19 zFn_19 (by decide) (zw_T zwd_74) rfl rfl rfl rfl (ty := .array .long) (by decide +kernel) (Or.inr ⟨_, rfl⟩)
theorem zf_zm_6_154 (env : List (Nat × Nat)) : zI9 6 zY_6 zm_6 env (326, 0, 0, 0, 0) 327 := zi_aload_n (by decide +kernel : decode zY_6.2.1 326 = .ok (.aload_n 0, 1)) rfl
theorem zf_zm_6_155 (env : List (Nat × Nat)) : zI9 6 zY_6 zm_6 env (327, 2, 512, 0, 0) 330 := zi_sipush (by decide +kernel : decode zY_6.2.1 327 = .ok (.sipush 512, 3)) (by decide +kernel)
theorem zf_zm_6_156 (env : List (Nat × Nat)) : zI9 6 zY_6 zm_6 env (330, 12, 0, 2, 0) 332 := zi_newI (by decide +kernel : decode zY_6.2.1 330 = .ok (.newarray .boolean, 2)) (zw_T zwd_43) rfl rfl (by decide) rfl
theorem zf_zm_6_157 (env : List (Nat × Nat)) : zI9 6 zY_6 zm_6 env (332, 4, 19, 38, 2) 335 := zi_putfF (i := 128) (N := 56) (C := "TransportPairModel$Streams") (ref := "TransportPairModel$Streams") (T := zF_19) (by decide +kernel : decode zY_6.2.1 332 = .ok (.putfield 128, 3)) rfl zuw_19 zFt_19 zFn_19 (by decide) (zw_T zwd_75) rfl rfl rfl rfl (ty := .array .boolean) (by decide +kernel) (Or.inr ⟨_, rfl⟩)
theorem zf_zm_6_158 (env : List (Nat × Nat)) : zI9 6 zY_6 zm_6 env (335, 0, 0, 0, 0) 336 := zi_aload_n (by decide +kernel : decode zY_6.2.1 335 = .ok (.aload_n 0, 1)) rfl
theorem zf_zm_6_159 (env : List (Nat × Nat)) : zI9 6 zY_6 zm_6 env (336, 2, 512, 0, 0) 339 := zi_sipush (by decide +kernel : decode zY_6.2.1 336 = .ok (.sipush 512, 3)) (by decide +kernel)
theorem zf_zm_6_160 (env : List (Nat × Nat)) : zI9 6 zY_6 zm_6 env (339, 12, 0, 0, 0) 341 := zi_newI (by decide +kernel : decode zY_6.2.1 339 = .ok (.newarray .int, 2)) (zw_T zwd_16) rfl rfl (by decide) rfl
theorem zf_zm_6_161 (env : List (Nat × Nat)) : zI9 6 zY_6 zm_6 env (341, 4, 19, 39, 2) 344 := zi_putfF (i := 131) (N := 56) (C := "TransportPairModel$Streams") (ref := "TransportPairModel$Streams") (T := zF_19) (by decide +kernel : decode zY_6.2.1 341 = .ok (.putfield 131, 3)) rfl zuw_19 zFt_19 zFn_19 (by decide) (zw_T zwd_76) rfl rfl rfl rfl (ty := .array .int) (by decide +kernel) (Or.inr ⟨_, rfl⟩)
theorem zf_zm_6_162 (env : List (Nat × Nat)) : zI9 6 zY_6 zm_6 env (344, 0, 0, 0, 0) 345 := zi_aload_n (by decide +kernel : decode zY_6.2.1 344 = .ok (.aload_n 0, 1)) rfl
theorem zf_zm_6_163 (env : List (Nat × Nat)) : zI9 6 zY_6 zm_6 env (345, 2, 2, 0, 0) 346 := zi_iconst (by decide +kernel : decode zY_6.2.1 345 = .ok (.iconst 2, 1)) (by decide +kernel)
theorem zf_zm_6_164 (env : List (Nat × Nat)) : zI9 6 zY_6 zm_6 env (346, 12, 0, 0, 0) 348 := zi_newI (by decide +kernel : decode zY_6.2.1 346 = .ok (.newarray .int, 2)) (zw_T zwd_16) rfl rfl (by decide) rfl
theorem zf_zm_6_165 (env : List (Nat × Nat)) : zI9 6 zY_6 zm_6 env (348, 4, 19, 40, 2) 351 := zi_putfF (i := 134) (N := 56) (C := "TransportPairModel$Streams") (ref := "TransportPairModel$Streams") (T := zF_19) (by decide +kernel : decode zY_6.2.1 348 = .ok (.putfield 134, 3)) rfl zuw_19 zFt_19 zFn_19 (by decide) (zw_T zwd_77) rfl rfl rfl rfl (ty := .array .int) (by decide +kernel) (Or.inr ⟨_, rfl⟩)
theorem zf_zm_6_166 (env : List (Nat × Nat)) : zI9 6 zY_6 zm_6 env (351, 0, 0, 0, 0) 352 := zi_aload_n (by decide +kernel : decode zY_6.2.1 351 = .ok (.aload_n 0, 1)) rfl
theorem zf_zm_6_167 (env : List (Nat × Nat)) : zI9 6 zY_6 zm_6 env (352, 2, 131072, 0, 0) 354 := zi_ldc (v := 131072) (by decide +kernel : decode zY_6.2.1 352 = .ok (.ldc 137, 2)) (by decide +kernel) (zw_T zwd_78)
theorem zf_zm_6_168 (env : List (Nat × Nat)) : zI9 6 zY_6 zm_6 env (354, 12, 0, 1, 0) 356 := zi_newI (by decide +kernel : decode zY_6.2.1 354 = .ok (.newarray .byte, 2)) (zw_T zwd_79) rfl rfl (by decide) rfl
theorem zf_zm_6_169 (env : List (Nat × Nat)) : zI9 6 zY_6 zm_6 env (356, 4, 19, 41, 2) 359 := zi_putfF (i := 138) (N := 56) (C := "TransportPairModel$Streams") (ref := "TransportPairModel$Streams") (T := zF_19) (by decide +kernel : decode zY_6.2.1 356 = .ok (.putfield 138, 3)) rfl zuw_19 zFt_19 zFn_19 (by decide) (zw_T zwd_80) rfl rfl rfl rfl (ty := .array .byte) (by decide +kernel) (Or.inr ⟨_, rfl⟩)
theorem zf_zm_6_170 (env : List (Nat × Nat)) : zI9 6 zY_6 zm_6 env (359, 0, 0, 0, 0) 360 := zi_aload_n (by decide +kernel : decode zY_6.2.1 359 = .ok (.aload_n 0, 1)) rfl
theorem zf_zm_6_171 (env : List (Nat × Nat)) : zI9 6 zY_6 zm_6 env (360, 2, 131072, 0, 0) 362 := zi_ldc (v := 131072) (by decide +kernel : decode zY_6.2.1 360 = .ok (.ldc 137, 2)) (by decide +kernel) (zw_T zwd_78)
theorem zf_zm_6_172 (env : List (Nat × Nat)) : zI9 6 zY_6 zm_6 env (362, 12, 0, 1, 0) 364 := zi_newI (by decide +kernel : decode zY_6.2.1 362 = .ok (.newarray .byte, 2)) (zw_T zwd_79) rfl rfl (by decide) rfl
theorem zf_zm_6_173 (env : List (Nat × Nat)) : zI9 6 zY_6 zm_6 env (364, 4, 19, 42, 2) 367 := zi_putfF (i := 142) (N := 56) (C := "TransportPairModel$Streams") (ref := "TransportPairModel$Streams") (T := zF_19) (by decide +kernel : decode zY_6.2.1 364 = .ok (.putfield 142, 3)) rfl zuw_19 zFt_19 zFn_19 (by decide) (zw_T zwd_81) rfl rfl rfl rfl (ty := .array .byte) (by decide +kernel) (Or.inr ⟨_, rfl⟩)
theorem zf_zm_6_174 (env : List (Nat × Nat)) : zI9 6 zY_6 zm_6 env (367, 0, 0, 0, 0) 368 := zi_aload_n (by decide +kernel : decode zY_6.2.1 367 = .ok (.aload_n 0, 1)) rfl
theorem zf_zm_6_175 (env : List (Nat × Nat)) : zI9 6 zY_6 zm_6 env (368, 2, 131072, 0, 0) 370 := zi_ldc (v := 131072) (by decide +kernel : decode zY_6.2.1 368 = .ok (.ldc 137, 2)) (by decide +kernel) (zw_T zwd_78)
theorem zf_zm_6_176 (env : List (Nat × Nat)) : zI9 6 zY_6 zm_6 env (370, 12, 0, 0, 0) 372 := zi_newI (by decide +kernel : decode zY_6.2.1 370 = .ok (.newarray .int, 2)) (zw_T zwd_16) rfl rfl (by decide) rfl
theorem zf_zm_6_177 (env : List (Nat × Nat)) : zI9 6 zY_6 zm_6 env (372, 4, 19, 43, 2) 375 := zi_putfF (i := 145) (N := 56) (C := "TransportPairModel$Streams") (ref := "TransportPairModel$Streams") (T := zF_19) (by decide +kernel : decode zY_6.2.1 372 = .ok (.putfield 145, 3)) rfl zuw_19 zFt_19 zFn_19 (by decide) (zw_T zwd_82) rfl rfl rfl rfl (ty := .array .int) (by decide +kernel) (Or.inr ⟨_, rfl⟩)
theorem zf_zm_6_178 (env : List (Nat × Nat)) : zI9 6 zY_6 zm_6 env (375, 0, 0, 0, 0) 376 := zi_aload_n (by decide +kernel : decode zY_6.2.1 375 = .ok (.aload_n 0, 1)) rfl
theorem zf_zm_6_179 (env : List (Nat × Nat)) : zI9 6 zY_6 zm_6 env (376, 2, 2, 0, 0) 377 := zi_iconst (by decide +kernel : decode zY_6.2.1 376 = .ok (.iconst 2, 1)) (by decide +kernel)
theorem zf_zm_6_180 (env : List (Nat × Nat)) : zI9 6 zY_6 zm_6 env (377, 12, 0, 0, 0) 379 := zi_newI (by decide +kernel : decode zY_6.2.1 377 = .ok (.newarray .int, 2)) (zw_T zwd_16) rfl rfl (by decide) rfl
theorem zf_zm_6_181 (env : List (Nat × Nat)) : zI9 6 zY_6 zm_6 env (379, 4, 19, 44, 2) 382 := zi_putfF (i := 148) (N := 56) (C := "TransportPairModel$Streams") (ref := "TransportPairModel$Streams") (T := zF_19) (by decide +kernel : decode zY_6.2.1 379 = .ok (.putfield 148, 3)) rfl zuw_19 zFt_19 zFn_19 (by decide) (zw_T zwd_83) rfl rfl rfl rfl (ty := .array .int) (by decide +kernel) (Or.inr ⟨_, rfl⟩)
theorem zf_zm_6_182 (env : List (Nat × Nat)) : zI9 6 zY_6 zm_6 env (382, 0, 0, 0, 0) 383 := zi_aload_n (by decide +kernel : decode zY_6.2.1 382 = .ok (.aload_n 0, 1)) rfl
theorem zf_zm_6_183 (env : List (Nat × Nat)) : zI9 6 zY_6 zm_6 env (383, 2, 2, 0, 0) 384 := zi_iconst (by decide +kernel : decode zY_6.2.1 383 = .ok (.iconst 2, 1)) (by decide +kernel)
theorem zf_zm_6_184 (env : List (Nat × Nat)) : zI9 6 zY_6 zm_6 env (384, 12, 0, 0, 0) 386 := zi_newI (by decide +kernel : decode zY_6.2.1 384 = .ok (.newarray .int, 2)) (zw_T zwd_16) rfl rfl (by decide) rfl
theorem zf_zm_6_185 (env : List (Nat × Nat)) : zI9 6 zY_6 zm_6 env (386, 4, 19, 45, 2) 389 := zi_putfF (i := 151) (N := 56) (C := "TransportPairModel$Streams") (ref := "TransportPairModel$Streams") (T := zF_19) (by decide +kernel : decode zY_6.2.1 386 = .ok (.putfield 151, 3)) rfl zuw_19 zFt_19 zFn_19 (by decide) (zw_T zwd_84) rfl rfl rfl rfl (ty := .array .int) (by decide +kernel) (Or.inr ⟨_, rfl⟩)
theorem zf_zm_6_186 (env : List (Nat × Nat)) : zI9 6 zY_6 zm_6 env (389, 0, 0, 0, 0) 390 := zi_aload_n (by decide +kernel : decode zY_6.2.1 389 = .ok (.aload_n 0, 1)) rfl
theorem zf_zm_6_187 (env : List (Nat × Nat)) : zI9 6 zY_6 zm_6 env (390, 2, 2816, 0, 0) 393 := zi_sipush (by decide +kernel : decode zY_6.2.1 390 = .ok (.sipush 2816, 3)) (by decide +kernel)
theorem zf_zm_6_188 (env : List (Nat × Nat)) : zI9 6 zY_6 zm_6 env (393, 12, 0, 0, 0) 395 := zi_newI (by decide +kernel : decode zY_6.2.1 393 = .ok (.newarray .int, 2)) (zw_T zwd_16) rfl rfl (by decide) rfl
theorem zf_zm_6_189 (env : List (Nat × Nat)) : zI9 6 zY_6 zm_6 env (395, 4, 19, 46, 2) 398 := zi_putfF (i := 154) (N := 56) (C := "TransportPairModel$Streams") (ref := "TransportPairModel$Streams") (T := zF_19) (by decide +kernel : decode zY_6.2.1 395 = .ok (.putfield 154, 3)) rfl zuw_19 zFt_19 zFn_19 (by decide) (zw_T zwd_85) rfl rfl rfl rfl (ty := .array .int) (by decide +kernel) (Or.inr ⟨_, rfl⟩)
theorem zf_zm_6_190 (env : List (Nat × Nat)) : zI9 6 zY_6 zm_6 env (398, 0, 0, 0, 0) 399 := zi_aload_n (by decide +kernel : decode zY_6.2.1 398 = .ok (.aload_n 0, 1)) rfl
theorem zf_zm_6_191 (env : List (Nat × Nat)) : zI9 6 zY_6 zm_6 env (399, 2, 2816, 0, 0) 402 := zi_sipush (by decide +kernel : decode zY_6.2.1 399 = .ok (.sipush 2816, 3)) (by decide +kernel)
theorem zf_zm_6_192 (env : List (Nat × Nat)) : zI9 6 zY_6 zm_6 env (402, 12, 0, 0, 0) 404 := zi_newI (by decide +kernel : decode zY_6.2.1 402 = .ok (.newarray .int, 2)) (zw_T zwd_16) rfl rfl (by decide) rfl
theorem zf_zm_6_193 (env : List (Nat × Nat)) : zI9 6 zY_6 zm_6 env (404, 4, 19, 47, 2) 407 := zi_putfF (i := 157) (N := 56) (C := "TransportPairModel$Streams") (ref := "TransportPairModel$Streams") (T := zF_19) (by decide +kernel : decode zY_6.2.1 404 = .ok (.putfield 157, 3)) rfl zuw_19 zFt_19 zFn_19 (by decide) (zw_T zwd_86) rfl rfl rfl rfl (ty := .array .int) (by decide +kernel) (Or.inr ⟨_, rfl⟩)
theorem zf_zm_6_194 (env : List (Nat × Nat)) : zI9 6 zY_6 zm_6 env (407, 0, 0, 0, 0) 408 := zi_aload_n (by decide +kernel : decode zY_6.2.1 407 = .ok (.aload_n 0, 1)) rfl
theorem zf_zm_6_195 (env : List (Nat × Nat)) : zI9 6 zY_6 zm_6 env (408, 2, 2816, 0, 0) 411 := zi_sipush (by decide +kernel : decode zY_6.2.1 408 = .ok (.sipush 2816, 3)) (by decide +kernel)
theorem zf_zm_6_196 (env : List (Nat × Nat)) : zI9 6 zY_6 zm_6 env (411, 12, 1, 3, 0) 413 := zi_newL (by decide +kernel : decode zY_6.2.1 411 = .ok (.newarray .long, 2)) (zw_T zwd_13) rfl rfl
theorem zf_zm_6_197 (env : List (Nat × Nat)) : zI9 6 zY_6 zm_6 env (413, 4, 19, 48, 2) 416 := zi_putfF (i := 160) (N := 56) (C := "TransportPairModel$Streams") (ref := "TransportPairModel$Streams") (T := zF_19) (by decide +kernel : decode zY_6.2.1 413 = .ok (.putfield 160, 3)) rfl zuw_19 zFt_19 zFn_19 (by decide) (zw_T zwd_87) rfl rfl rfl rfl (ty := .array .long) (by decide +kernel) (Or.inr ⟨_, rfl⟩)
theorem zf_zm_6_198 (env : List (Nat × Nat)) : zI9 6 zY_6 zm_6 env (416, 0, 0, 0, 0) 417 := zi_aload_n (by decide +kernel : decode zY_6.2.1 416 = .ok (.aload_n 0, 1)) rfl
theorem zf_zm_6_199 (env : List (Nat × Nat)) : zI9 6 zY_6 zm_6 env (417, 2, 180224, 0, 0) 419 := zi_ldc (v := 180224) (by decide +kernel : decode zY_6.2.1 417 = .ok (.ldc 163, 2)) (by decide +kernel) (zw_T zwd_88)
theorem zf_zm_6_200 (env : List (Nat × Nat)) : zI9 6 zY_6 zm_6 env (419, 12, 0, 1, 0) 421 := zi_newI (by decide +kernel : decode zY_6.2.1 419 = .ok (.newarray .byte, 2)) (zw_T zwd_79) rfl rfl (by decide) rfl
theorem zf_zm_6_201 (env : List (Nat × Nat)) : zI9 6 zY_6 zm_6 env (421, 4, 19, 49, 2) 424 := zi_putfF (i := 164) (N := 56) (C := "TransportPairModel$Streams") (ref := "TransportPairModel$Streams") (T := zF_19) (by decide +kernel : decode zY_6.2.1 421 = .ok (.putfield 164, 3)) rfl zuw_19 zFt_19 zFn_19 (by decide) (zw_T zwd_89) rfl rfl rfl rfl (ty := .array .byte) (by decide +kernel) (Or.inr ⟨_, rfl⟩)
theorem zf_zm_6_202 (env : List (Nat × Nat)) : zI9 6 zY_6 zm_6 env (424, 0, 0, 0, 0) 425 := zi_aload_n (by decide +kernel : decode zY_6.2.1 424 = .ok (.aload_n 0, 1)) rfl
theorem zf_zm_6_203 (env : List (Nat × Nat)) : zI9 6 zY_6 zm_6 env (425, 2, 1200, 0, 0) 428 := zi_sipush (by decide +kernel : decode zY_6.2.1 425 = .ok (.sipush 1200, 3)) (by decide +kernel)
theorem zf_zm_6_204 (env : List (Nat × Nat)) : zI9 6 zY_6 zm_6 env (428, 12, 0, 0, 0) 430 := zi_newI (by decide +kernel : decode zY_6.2.1 428 = .ok (.newarray .int, 2)) (zw_T zwd_16) rfl rfl (by decide) rfl
theorem zf_zm_6_205 (env : List (Nat × Nat)) : zI9 6 zY_6 zm_6 env (430, 4, 19, 55, 2) 433 := zi_putfF (i := 167) (N := 56) (C := "TransportPairModel$Streams") (ref := "TransportPairModel$Streams") (T := zF_19) (by decide +kernel : decode zY_6.2.1 430 = .ok (.putfield 167, 3)) rfl zuw_19 zFt_19 zFn_19 (by decide) (zw_T zwd_90) rfl rfl rfl rfl (ty := .array .int) (by decide +kernel) (Or.inr ⟨_, rfl⟩)
theorem zf_zm_6_206 (env : List (Nat × Nat)) : zI9 6 zY_6 zm_6 env (433, 2, 0, 0, 0) 434 := zi_iconst (by decide +kernel : decode zY_6.2.1 433 = .ok (.iconst 0, 1)) (by decide +kernel)
theorem zf_zm_6_207 (env : List (Nat × Nat)) : zI9 6 zY_6 zm_6 env (434, 10, 1, 0, 0) 435 := zi_istore_n (by decide +kernel : decode zY_6.2.1 434 = .ok (.istore_n 1, 1)) rfl (by decide)
theorem zf_zm_6_208 (env : List (Nat × Nat)) : zI9 6 zY_6 zm_6 env (435, 63, 1, 0, 0) 436 := zi_iload_n (by decide +kernel : decode zY_6.2.1 435 = .ok (.iload_n 1, 1)) rfl
theorem zf_zm_6_209 (env : List (Nat × Nat)) : zI9 6 zY_6 zm_6 env (436, 2, 2, 0, 0) 437 := zi_iconst (by decide +kernel : decode zY_6.2.1 436 = .ok (.iconst 2, 1)) (by decide +kernel)
theorem zf_zm_6_210 (env : List (Nat × Nat)) : zI9 6 zY_6 zm_6 env (437, 28, 234, 0, 0) 440 := zi_icmp_ge (off := 42) (t := 479) (by decide +kernel : decode zY_6.2.1 437 = .ok (.if_icmp .ge 42, 3)) (by decide) (by decide +kernel)
theorem zf_zm_6_211 (env : List (Nat × Nat)) : zI9 6 zY_6 zm_6 env (440, 0, 0, 0, 0) 441 := zi_aload_n (by decide +kernel : decode zY_6.2.1 440 = .ok (.aload_n 0, 1)) rfl
theorem zf_zm_6_212 (env : List (Nat × Nat)) : zI9 6 zY_6 zm_6 env (441, 1, 19, 11, 2) 444 := zi_getf (i := 47) (N := 56) (C := "TransportPairModel$Streams") (ref := "TransportPairModel$Streams") (T := zF_19) (by decide +kernel : decode zY_6.2.1 441 = .ok (.getfield 47, 3)) rfl zuw_19 (by decide) (zw_T zwd_48) rfl
theorem zf_zm_6_213 (env : List (Nat × Nat)) : zI9 6 zY_6 zm_6 env (444, 63, 1, 0, 0) 445 := zi_iload_n (by decide +kernel : decode zY_6.2.1 444 = .ok (.iload_n 1, 1)) rfl
theorem zf_zm_6_214 (env : List (Nat × Nat)) : zI9 6 zY_6 zm_6 env (445, 2, 4294967295, 0, 0) 446 := zi_iconst (by decide +kernel : decode zY_6.2.1 445 = .ok (.iconst (-1), 1)) (by decide +kernel)
theorem zf_zm_6_215 (env : List (Nat × Nat)) : zI9 6 zY_6 zm_6 env (446, 32, 0, 0, 0) 447 := zi_iast (by decide +kernel : decode zY_6.2.1 446 = .ok (.iastore, 1))
theorem zf_zm_6_216 (env : List (Nat × Nat)) : zI9 6 zY_6 zm_6 env (447, 2, 0, 0, 0) 448 := zi_iconst (by decide +kernel : decode zY_6.2.1 447 = .ok (.iconst 0, 1)) (by decide +kernel)
theorem zf_zm_6_217 (env : List (Nat × Nat)) : zI9 6 zY_6 zm_6 env (448, 10, 2, 0, 0) 449 := zi_istore_n (by decide +kernel : decode zY_6.2.1 448 = .ok (.istore_n 2, 1)) rfl (by decide)
theorem zf_zm_6_218 (env : List (Nat × Nat)) : zI9 6 zY_6 zm_6 env (449, 63, 2, 0, 0) 450 := zi_iload_n (by decide +kernel : decode zY_6.2.1 449 = .ok (.iload_n 2, 1)) rfl
theorem zf_zm_6_219 (env : List (Nat × Nat)) : zI9 6 zY_6 zm_6 env (450, 2, 3, 0, 0) 451 := zi_iconst (by decide +kernel : decode zY_6.2.1 450 = .ok (.iconst 3, 1)) (by decide +kernel)
theorem zf_zm_6_220 (env : List (Nat × Nat)) : zI9 6 zY_6 zm_6 env (451, 28, 232, 0, 0) 454 := zi_icmp_ge (off := 22) (t := 473) (by decide +kernel : decode zY_6.2.1 451 = .ok (.if_icmp .ge 22, 3)) (by decide) (by decide +kernel)
theorem zf_zm_6_221 (env : List (Nat × Nat)) : zI9 6 zY_6 zm_6 env (454, 0, 0, 0, 0) 455 := zi_aload_n (by decide +kernel : decode zY_6.2.1 454 = .ok (.aload_n 0, 1)) rfl
theorem zf_zm_6_222 (env : List (Nat × Nat)) : zI9 6 zY_6 zm_6 env (455, 1, 19, 3, 2) 458 := zi_getf (i := 21) (N := 56) (C := "TransportPairModel$Streams") (ref := "TransportPairModel$Streams") (T := zF_19) (by decide +kernel : decode zY_6.2.1 455 = .ok (.getfield 21, 3)) rfl zuw_19 (by decide) (zw_T zwd_39) rfl
theorem zf_zm_6_223 (env : List (Nat × Nat)) : zI9 6 zY_6 zm_6 env (458, 2, 3, 0, 0) 459 := zi_iconst (by decide +kernel : decode zY_6.2.1 458 = .ok (.iconst 3, 1)) (by decide +kernel)
theorem zf_zm_6_224 (env : List (Nat × Nat)) : zI9 6 zY_6 zm_6 env (459, 63, 1, 0, 0) 460 := zi_iload_n (by decide +kernel : decode zY_6.2.1 459 = .ok (.iload_n 1, 1)) rfl
theorem zf_zm_6_225 (env : List (Nat × Nat)) : zI9 6 zY_6 zm_6 env (460, 36, 0, 0, 0) 461 := zi_imul (by decide +kernel : decode zY_6.2.1 460 = .ok (.imul, 1))
theorem zf_zm_6_226 (env : List (Nat × Nat)) : zI9 6 zY_6 zm_6 env (461, 63, 2, 0, 0) 462 := zi_iload_n (by decide +kernel : decode zY_6.2.1 461 = .ok (.iload_n 2, 1)) rfl
theorem zf_zm_6_227 (env : List (Nat × Nat)) : zI9 6 zY_6 zm_6 env (462, 9, 0, 0, 0) 463 := zi_iadd (by decide +kernel : decode zY_6.2.1 462 = .ok (.iadd, 1))
theorem zf_zm_6_228 (env : List (Nat × Nat)) : zI9 6 zY_6 zm_6 env (463, 15, 18446744073709551615, 0, 0) 466 := zi_ldc2 (v := (-1)) (by decide +kernel : decode zY_6.2.1 463 = .ok (.ldc2_w 170, 3)) (by decide +kernel) (zw_T zwd_91)
theorem zf_zm_6_229 (env : List (Nat × Nat)) : zI9 6 zY_6 zm_6 env (466, 18, 0, 0, 0) 467 := zi_last (by decide +kernel : decode zY_6.2.1 466 = .ok (.lastore, 1))
theorem zf_zm_6_230 (env : List (Nat × Nat)) : zI9 6 zY_6 zm_6 env (467, 35, 2, 1, 0) 470 := zi_iinc (by decide +kernel : decode zY_6.2.1 467 = .ok (.iinc 2 1, 3)) (by decide +kernel) (by decide)
theorem zf_zm_6_231 (env : List (Nat × Nat)) : zI9 6 zY_6 zm_6 env (470, 7, 218, 0, 0) 473 := zi_goto (off := (-21)) (t := 449) (by decide +kernel : decode zY_6.2.1 470 = .ok (.goto (-21), 3)) (by decide) (by decide +kernel)
theorem zf_zm_6_232 (env : List (Nat × Nat)) : zI9 6 zY_6 zm_6 env (473, 35, 1, 1, 0) 476 := zi_iinc (by decide +kernel : decode zY_6.2.1 473 = .ok (.iinc 1 1, 3)) (by decide +kernel) (by decide)
theorem zf_zm_6_233 (env : List (Nat × Nat)) : zI9 6 zY_6 zm_6 env (476, 7, 208, 0, 0) 479 := zi_goto (off := (-41)) (t := 435) (by decide +kernel : decode zY_6.2.1 476 = .ok (.goto (-41), 3)) (by decide) (by decide +kernel)
theorem zf_zm_6_234 (env : List (Nat × Nat)) : zI9 6 zY_6 zm_6 env (479, 2, 0, 0, 0) 480 := zi_iconst (by decide +kernel : decode zY_6.2.1 479 = .ok (.iconst 0, 1)) (by decide +kernel)
theorem zf_zm_6_235 (env : List (Nat × Nat)) : zI9 6 zY_6 zm_6 env (480, 10, 1, 0, 0) 481 := zi_istore_n (by decide +kernel : decode zY_6.2.1 480 = .ok (.istore_n 1, 1)) rfl (by decide)
theorem zf_zm_6_236 (env : List (Nat × Nat)) : zI9 6 zY_6 zm_6 env (481, 73, 451, 0, 0) 481 := zi_wide
theorem zf_zm_6_237 (env : List (Nat × Nat)) : zI9 6 zY_6 zm_6 env (481, 73, 442, 0, 0) 481 := zi_wide
theorem zf_zm_6_238 (env : List (Nat × Nat)) : zI9 6 zY_6 zm_6 env (481, 73, 443, 0, 0) 481 := zi_wide
theorem zf_zm_6_239 (env : List (Nat × Nat)) : zI9 6 zY_6 zm_6 env (481, 73, 444, 0, 0) 481 := zi_wide
theorem zf_zm_6_240 (env : List (Nat × Nat)) : zI9 6 zY_6 zm_6 env (481, 73, 445, 0, 0) 481 := zi_wide
theorem zf_zm_6_241 (env : List (Nat × Nat)) : zI9 6 zY_6 zm_6 env (481, 73, 462, 0, 0) 481 := zi_wide
theorem zf_zm_6_243 (env : List (Nat × Nat)) : zI9 6 zY_6 zm_6 env (481, 63, 1, 0, 0) 482 := zi_iload_n (by decide +kernel : decode zY_6.2.1 481 = .ok (.iload_n 1, 1)) rfl
theorem zf_zm_6_244 (env : List (Nat × Nat)) : zI9 6 zY_6 zm_6 env (482, 2, 512, 0, 0) 485 := zi_sipush (by decide +kernel : decode zY_6.2.1 482 = .ok (.sipush 512, 3)) (by decide +kernel)
theorem zf_zm_6_245 (env : List (Nat × Nat)) : zI9 6 zY_6 zm_6 env (485, 28, 247, 0, 0) 488 := zi_icmp_ge (off := 55) (t := 540) (by decide +kernel : decode zY_6.2.1 485 = .ok (.if_icmp .ge 55, 3)) (by decide) (by decide +kernel)
theorem zf_zm_6_246 (env : List (Nat × Nat)) : zI9 6 zY_6 zm_6 env (488, 99, 0, 0, 0) 540 := zi_none
theorem zf_zm_6_247 (env : List (Nat × Nat)) : zR9 6 env (540, 21, 0, 0, 0) := zi_vret (by decide +kernel : decode (zYf 6).2.1 540 = .ok (.return_, 1)) rfl
set_option maxRecDepth 100000 in
theorem zc_zm_6 (env : List (Nat × Nat)) : zcode zX (z_QF zEX zcl zft) (z_zm zEX zX zWL zcl zft zYf) zYf zW zET zcl zft (zGv env) 6 zm_6 zm_6.1 := ⟨Or.inl ⟨1, zf_zm_6_0 env, zpc_c⟩,
  Or.inl ⟨4, zf_zm_6_1 env, zpc_c⟩,
  Or.inl ⟨5, zf_zm_6_2 env, zpc_c⟩,
  Or.inl ⟨7, zf_zm_6_3 env, zpc_c⟩,
  Or.inl ⟨9, zf_zm_6_4 env, zpc_c⟩,
  Or.inl ⟨12, zf_zm_6_5 env, zpc_c⟩,
  Or.inl ⟨13, zf_zm_6_6 env, zpc_c⟩,
  Or.inl ⟨15, zf_zm_6_7 env, zpc_c⟩,
  Or.inl ⟨17, zf_zm_6_8 env, zpc_c⟩,
  Or.inl ⟨20, zf_zm_6_9 env, zpc_c⟩,
  Or.inl ⟨21, zf_zm_6_10 env, zpc_c⟩,
  Or.inl ⟨23, zf_zm_6_11 env, zpc_c⟩,
  Or.inl ⟨25, zf_zm_6_12 env, zpc_c⟩,
  Or.inl ⟨28, zf_zm_6_13 env, zpc_c⟩,
  Or.inl ⟨29, zf_zm_6_14 env, zpc_c⟩,
  Or.inl ⟨31, zf_zm_6_15 env, zpc_c⟩,
  Or.inl ⟨33, zf_zm_6_16 env, zpc_c⟩,
  Or.inl ⟨36, zf_zm_6_17 env, zpc_c⟩,
  Or.inl ⟨37, zf_zm_6_18 env, zpc_c⟩,
  Or.inl ⟨38, zf_zm_6_19 env, zpc_c⟩,
  Or.inl ⟨40, zf_zm_6_20 env, zpc_c⟩,
  Or.inl ⟨43, zf_zm_6_21 env, zpc_c⟩,
  Or.inl ⟨44, zf_zm_6_22 env, zpc_c⟩,
  Or.inl ⟨45, zf_zm_6_23 env, zpc_c⟩,
  Or.inl ⟨47, zf_zm_6_24 env, zpc_c⟩,
  Or.inl ⟨50, zf_zm_6_25 env, zpc_c⟩,
  Or.inl ⟨51, zf_zm_6_26 env, zpc_c⟩,
  Or.inl ⟨52, zf_zm_6_27 env, zpc_c⟩,
  Or.inl ⟨54, zf_zm_6_28 env, zpc_c⟩,
  Or.inl ⟨57, zf_zm_6_29 env, zpc_c⟩,
  Or.inl ⟨58, zf_zm_6_30 env, zpc_c⟩,
  Or.inl ⟨59, zf_zm_6_31 env, zpc_c⟩,
  Or.inl ⟨61, zf_zm_6_32 env, zpc_c⟩,
  Or.inl ⟨64, zf_zm_6_33 env, zpc_c⟩,
  Or.inl ⟨65, zf_zm_6_34 env, zpc_c⟩,
  Or.inl ⟨66, zf_zm_6_35 env, zpc_c⟩,
  Or.inl ⟨68, zf_zm_6_36 env, zpc_c⟩,
  Or.inl ⟨71, zf_zm_6_37 env, zpc_c⟩,
  Or.inl ⟨72, zf_zm_6_38 env, zpc_c⟩,
  Or.inl ⟨73, zf_zm_6_39 env, zpc_c⟩,
  Or.inl ⟨75, zf_zm_6_40 env, zpc_c⟩,
  Or.inl ⟨78, zf_zm_6_41 env, zpc_c⟩,
  Or.inl ⟨79, zf_zm_6_42 env, zpc_c⟩,
  Or.inl ⟨80, zf_zm_6_43 env, zpc_c⟩,
  Or.inl ⟨82, zf_zm_6_44 env, zpc_c⟩,
  Or.inl ⟨85, zf_zm_6_45 env, zpc_c⟩,
  Or.inl ⟨86, zf_zm_6_46 env, zpc_c⟩,
  Or.inl ⟨87, zf_zm_6_47 env, zpc_c⟩,
  Or.inl ⟨89, zf_zm_6_48 env, zpc_c⟩,
  Or.inl ⟨92, zf_zm_6_49 env, zpc_c⟩,
  Or.inl ⟨93, zf_zm_6_50 env, zpc_c⟩,
  Or.inl ⟨96, zf_zm_6_51 env, zpc_c⟩,
  Or.inl ⟨98, zf_zm_6_52 env, zpc_c⟩,
  Or.inl ⟨101, zf_zm_6_53 env, zpc_c⟩,
  Or.inl ⟨102, zf_zm_6_54 env, zpc_c⟩,
  Or.inl ⟨105, zf_zm_6_55 env, zpc_c⟩,
  Or.inl ⟨107, zf_zm_6_56 env, zpc_c⟩,
  Or.inl ⟨110, zf_zm_6_57 env, zpc_c⟩,
  Or.inl ⟨111, zf_zm_6_58 env, zpc_c⟩,
  Or.inl ⟨114, zf_zm_6_59 env, zpc_c⟩,
  Or.inl ⟨116, zf_zm_6_60 env, zpc_c⟩,
  Or.inl ⟨119, zf_zm_6_61 env, zpc_c⟩,
  Or.inl ⟨120, zf_zm_6_62 env, zpc_c⟩,
  Or.inl ⟨123, zf_zm_6_63 env, zpc_c⟩,
  Or.inl ⟨125, zf_zm_6_64 env, zpc_c⟩,
  Or.inl ⟨128, zf_zm_6_65 env, zpc_c⟩,
  Or.inl ⟨129, zf_zm_6_66 env, zpc_c⟩,
  Or.inl ⟨132, zf_zm_6_67 env, zpc_c⟩,
  Or.inl ⟨134, zf_zm_6_68 env, zpc_c⟩,
  Or.inl ⟨137, zf_zm_6_69 env, zpc_c⟩,
  Or.inl ⟨138, zf_zm_6_70 env, zpc_c⟩,
  Or.inl ⟨141, zf_zm_6_71 env, zpc_c⟩,
  Or.inl ⟨143, zf_zm_6_72 env, zpc_c⟩,
  Or.inl ⟨146, zf_zm_6_73 env, zpc_c⟩,
  Or.inl ⟨147, zf_zm_6_74 env, zpc_c⟩,
  Or.inl ⟨150, zf_zm_6_75 env, zpc_c⟩,
  Or.inl ⟨152, zf_zm_6_76 env, zpc_c⟩,
  Or.inl ⟨155, zf_zm_6_77 env, zpc_c⟩,
  Or.inl ⟨156, zf_zm_6_78 env, zpc_c⟩,
  Or.inl ⟨159, zf_zm_6_79 env, zpc_c⟩,
  Or.inl ⟨161, zf_zm_6_80 env, zpc_c⟩,
  Or.inl ⟨164, zf_zm_6_81 env, zpc_c⟩,
  Or.inl ⟨165, zf_zm_6_82 env, zpc_c⟩,
  Or.inl ⟨168, zf_zm_6_83 env, zpc_c⟩,
  Or.inl ⟨170, zf_zm_6_84 env, zpc_c⟩,
  Or.inl ⟨173, zf_zm_6_85 env, zpc_c⟩,
  Or.inl ⟨174, zf_zm_6_86 env, zpc_c⟩,
  Or.inl ⟨177, zf_zm_6_87 env, zpc_c⟩,
  Or.inl ⟨179, zf_zm_6_88 env, zpc_c⟩,
  Or.inl ⟨182, zf_zm_6_89 env, zpc_c⟩,
  Or.inl ⟨183, zf_zm_6_90 env, zpc_c⟩,
  Or.inl ⟨186, zf_zm_6_91 env, zpc_c⟩,
  Or.inl ⟨188, zf_zm_6_92 env, zpc_c⟩,
  Or.inl ⟨191, zf_zm_6_93 env, zpc_c⟩,
  Or.inl ⟨192, zf_zm_6_94 env, zpc_c⟩,
  Or.inl ⟨195, zf_zm_6_95 env, zpc_c⟩,
  Or.inl ⟨197, zf_zm_6_96 env, zpc_c⟩,
  Or.inl ⟨200, zf_zm_6_97 env, zpc_c⟩,
  Or.inl ⟨201, zf_zm_6_98 env, zpc_c⟩,
  Or.inl ⟨204, zf_zm_6_99 env, zpc_c⟩,
  Or.inl ⟨206, zf_zm_6_100 env, zpc_c⟩,
  Or.inl ⟨209, zf_zm_6_101 env, zpc_c⟩,
  Or.inl ⟨210, zf_zm_6_102 env, zpc_c⟩,
  Or.inl ⟨213, zf_zm_6_103 env, zpc_c⟩,
  Or.inl ⟨215, zf_zm_6_104 env, zpc_c⟩,
  Or.inl ⟨218, zf_zm_6_105 env, zpc_c⟩,
  Or.inl ⟨219, zf_zm_6_106 env, zpc_c⟩,
  Or.inl ⟨222, zf_zm_6_107 env, zpc_c⟩,
  Or.inl ⟨224, zf_zm_6_108 env, zpc_c⟩,
  Or.inl ⟨227, zf_zm_6_109 env, zpc_c⟩,
  Or.inl ⟨228, zf_zm_6_110 env, zpc_c⟩,
  Or.inl ⟨231, zf_zm_6_111 env, zpc_c⟩,
  Or.inl ⟨233, zf_zm_6_112 env, zpc_c⟩,
  Or.inl ⟨236, zf_zm_6_113 env, zpc_c⟩,
  Or.inl ⟨237, zf_zm_6_114 env, zpc_c⟩,
  Or.inl ⟨240, zf_zm_6_115 env, zpc_c⟩,
  Or.inl ⟨242, zf_zm_6_116 env, zpc_c⟩,
  Or.inl ⟨245, zf_zm_6_117 env, zpc_c⟩,
  Or.inl ⟨246, zf_zm_6_118 env, zpc_c⟩,
  Or.inl ⟨249, zf_zm_6_119 env, zpc_c⟩,
  Or.inl ⟨251, zf_zm_6_120 env, zpc_c⟩,
  Or.inl ⟨254, zf_zm_6_121 env, zpc_c⟩,
  Or.inl ⟨255, zf_zm_6_122 env, zpc_c⟩,
  Or.inl ⟨258, zf_zm_6_123 env, zpc_c⟩,
  Or.inl ⟨260, zf_zm_6_124 env, zpc_c⟩,
  Or.inl ⟨263, zf_zm_6_125 env, zpc_c⟩,
  Or.inl ⟨264, zf_zm_6_126 env, zpc_c⟩,
  Or.inl ⟨267, zf_zm_6_127 env, zpc_c⟩,
  Or.inl ⟨269, zf_zm_6_128 env, zpc_c⟩,
  Or.inl ⟨272, zf_zm_6_129 env, zpc_c⟩,
  Or.inl ⟨273, zf_zm_6_130 env, zpc_c⟩,
  Or.inl ⟨276, zf_zm_6_131 env, zpc_c⟩,
  Or.inl ⟨278, zf_zm_6_132 env, zpc_c⟩,
  Or.inl ⟨281, zf_zm_6_133 env, zpc_c⟩,
  Or.inl ⟨282, zf_zm_6_134 env, zpc_c⟩,
  Or.inl ⟨285, zf_zm_6_135 env, zpc_c⟩,
  Or.inl ⟨287, zf_zm_6_136 env, zpc_c⟩,
  Or.inl ⟨290, zf_zm_6_137 env, zpc_c⟩,
  Or.inl ⟨291, zf_zm_6_138 env, zpc_c⟩,
  Or.inl ⟨294, zf_zm_6_139 env, zpc_c⟩,
  Or.inl ⟨296, zf_zm_6_140 env, zpc_c⟩,
  Or.inl ⟨299, zf_zm_6_141 env, zpc_c⟩,
  Or.inl ⟨300, zf_zm_6_142 env, zpc_c⟩,
  Or.inl ⟨303, zf_zm_6_143 env, zpc_c⟩,
  Or.inl ⟨305, zf_zm_6_144 env, zpc_c⟩,
  Or.inl ⟨308, zf_zm_6_145 env, zpc_c⟩,
  Or.inl ⟨309, zf_zm_6_146 env, zpc_c⟩,
  Or.inl ⟨312, zf_zm_6_147 env, zpc_c⟩,
  Or.inl ⟨314, zf_zm_6_148 env, zpc_c⟩,
  Or.inl ⟨317, zf_zm_6_149 env, zpc_c⟩,
  Or.inl ⟨318, zf_zm_6_150 env, zpc_c⟩,
  Or.inl ⟨321, zf_zm_6_151 env, zpc_c⟩,
  Or.inl ⟨323, zf_zm_6_152 env, zpc_c⟩,
  Or.inl ⟨326, zf_zm_6_153 env, zpc_c⟩,
  Or.inl ⟨327, zf_zm_6_154 env, zpc_c⟩,
  Or.inl ⟨330, zf_zm_6_155 env, zpc_c⟩,
  Or.inl ⟨332, zf_zm_6_156 env, zpc_c⟩,
  Or.inl ⟨335, zf_zm_6_157 env, zpc_c⟩,
  Or.inl ⟨336, zf_zm_6_158 env, zpc_c⟩,
  Or.inl ⟨339, zf_zm_6_159 env, zpc_c⟩,
  Or.inl ⟨341, zf_zm_6_160 env, zpc_c⟩,
  Or.inl ⟨344, zf_zm_6_161 env, zpc_c⟩,
  Or.inl ⟨345, zf_zm_6_162 env, zpc_c⟩,
  Or.inl ⟨346, zf_zm_6_163 env, zpc_c⟩,
  Or.inl ⟨348, zf_zm_6_164 env, zpc_c⟩,
  Or.inl ⟨351, zf_zm_6_165 env, zpc_c⟩,
  Or.inl ⟨352, zf_zm_6_166 env, zpc_c⟩,
  Or.inl ⟨354, zf_zm_6_167 env, zpc_c⟩,
  Or.inl ⟨356, zf_zm_6_168 env, zpc_c⟩,
  Or.inl ⟨359, zf_zm_6_169 env, zpc_c⟩,
  Or.inl ⟨360, zf_zm_6_170 env, zpc_c⟩,
  Or.inl ⟨362, zf_zm_6_171 env, zpc_c⟩,
  Or.inl ⟨364, zf_zm_6_172 env, zpc_c⟩,
  Or.inl ⟨367, zf_zm_6_173 env, zpc_c⟩,
  Or.inl ⟨368, zf_zm_6_174 env, zpc_c⟩,
  Or.inl ⟨370, zf_zm_6_175 env, zpc_c⟩,
  Or.inl ⟨372, zf_zm_6_176 env, zpc_c⟩,
  Or.inl ⟨375, zf_zm_6_177 env, zpc_c⟩,
  Or.inl ⟨376, zf_zm_6_178 env, zpc_c⟩,
  Or.inl ⟨377, zf_zm_6_179 env, zpc_c⟩,
  Or.inl ⟨379, zf_zm_6_180 env, zpc_c⟩,
  Or.inl ⟨382, zf_zm_6_181 env, zpc_c⟩,
  Or.inl ⟨383, zf_zm_6_182 env, zpc_c⟩,
  Or.inl ⟨384, zf_zm_6_183 env, zpc_c⟩,
  Or.inl ⟨386, zf_zm_6_184 env, zpc_c⟩,
  Or.inl ⟨389, zf_zm_6_185 env, zpc_c⟩,
  Or.inl ⟨390, zf_zm_6_186 env, zpc_c⟩,
  Or.inl ⟨393, zf_zm_6_187 env, zpc_c⟩,
  Or.inl ⟨395, zf_zm_6_188 env, zpc_c⟩,
  Or.inl ⟨398, zf_zm_6_189 env, zpc_c⟩,
  Or.inl ⟨399, zf_zm_6_190 env, zpc_c⟩,
  Or.inl ⟨402, zf_zm_6_191 env, zpc_c⟩,
  Or.inl ⟨404, zf_zm_6_192 env, zpc_c⟩,
  Or.inl ⟨407, zf_zm_6_193 env, zpc_c⟩,
  Or.inl ⟨408, zf_zm_6_194 env, zpc_c⟩,
  Or.inl ⟨411, zf_zm_6_195 env, zpc_c⟩,
  Or.inl ⟨413, zf_zm_6_196 env, zpc_c⟩,
  Or.inl ⟨416, zf_zm_6_197 env, zpc_c⟩,
  Or.inl ⟨417, zf_zm_6_198 env, zpc_c⟩,
  Or.inl ⟨419, zf_zm_6_199 env, zpc_c⟩,
  Or.inl ⟨421, zf_zm_6_200 env, zpc_c⟩,
  Or.inl ⟨424, zf_zm_6_201 env, zpc_c⟩,
  Or.inl ⟨425, zf_zm_6_202 env, zpc_c⟩,
  Or.inl ⟨428, zf_zm_6_203 env, zpc_c⟩,
  Or.inl ⟨430, zf_zm_6_204 env, zpc_c⟩,
  Or.inl ⟨433, zf_zm_6_205 env, zpc_c⟩,
  Or.inl ⟨434, zf_zm_6_206 env, zpc_c⟩,
  Or.inl ⟨435, zf_zm_6_207 env, zpc_c⟩,
  Or.inl ⟨436, zf_zm_6_208 env, zpc_c⟩,
  Or.inl ⟨437, zf_zm_6_209 env, zpc_c⟩,
  Or.inl ⟨440, zf_zm_6_210 env, zpc_c⟩,
  Or.inl ⟨441, zf_zm_6_211 env, zpc_c⟩,
  Or.inl ⟨444, zf_zm_6_212 env, zpc_c⟩,
  Or.inl ⟨445, zf_zm_6_213 env, zpc_c⟩,
  Or.inl ⟨446, zf_zm_6_214 env, zpc_c⟩,
  Or.inl ⟨447, zf_zm_6_215 env, zpc_c⟩,
  Or.inl ⟨448, zf_zm_6_216 env, zpc_c⟩,
  Or.inl ⟨449, zf_zm_6_217 env, zpc_c⟩,
  Or.inl ⟨450, zf_zm_6_218 env, zpc_c⟩,
  Or.inl ⟨451, zf_zm_6_219 env, zpc_c⟩,
  Or.inl ⟨454, zf_zm_6_220 env, zpc_c⟩,
  Or.inl ⟨455, zf_zm_6_221 env, zpc_c⟩,
  Or.inl ⟨458, zf_zm_6_222 env, zpc_c⟩,
  Or.inl ⟨459, zf_zm_6_223 env, zpc_c⟩,
  Or.inl ⟨460, zf_zm_6_224 env, zpc_c⟩,
  Or.inl ⟨461, zf_zm_6_225 env, zpc_c⟩,
  Or.inl ⟨462, zf_zm_6_226 env, zpc_c⟩,
  Or.inl ⟨463, zf_zm_6_227 env, zpc_c⟩,
  Or.inl ⟨466, zf_zm_6_228 env, zpc_c⟩,
  Or.inl ⟨467, zf_zm_6_229 env, zpc_c⟩,
  Or.inl ⟨470, zf_zm_6_230 env, zpc_c⟩,
  Or.inl ⟨473, zf_zm_6_231 env, zpc_c⟩,
  Or.inl ⟨476, zf_zm_6_232 env, zpc_c⟩,
  Or.inl ⟨479, zf_zm_6_233 env, zpc_c⟩,
  Or.inl ⟨480, zf_zm_6_234 env, zpc_c⟩,
  Or.inl ⟨481, zf_zm_6_235 env, zpc_c⟩,
  Or.inl ⟨481, zf_zm_6_236 env, zpc_c⟩,
  Or.inl ⟨481, zf_zm_6_237 env, zpc_c⟩,
  Or.inl ⟨481, zf_zm_6_238 env, zpc_c⟩,
  Or.inl ⟨481, zf_zm_6_239 env, zpc_c⟩,
  Or.inl ⟨481, zf_zm_6_240 env, zpc_c⟩,
  Or.inl ⟨481, zf_zm_6_241 env, zpc_c⟩,
  Or.inr (Or.inr (Or.inr ⟨481, zf_zm_6_242 env, zpc_c⟩)),
  Or.inl ⟨482, zf_zm_6_243 env, zpc_c⟩,
  Or.inl ⟨485, zf_zm_6_244 env, zpc_c⟩,
  Or.inl ⟨488, zf_zm_6_245 env, zpc_c⟩,
  Or.inl ⟨540, zf_zm_6_246 env, zpc_c⟩,
  Or.inr (Or.inl (zf_zm_6_247 env)), trivial⟩
