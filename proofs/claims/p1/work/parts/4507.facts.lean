/-! FACTS (by program) -/
theorem zf_zm_117_0 (env : List (Nat × Nat)) : zI9 117 zY_117 zm_117 env (0, 63, 2, 0, 0) 1 := zi_iload_n (by decide +kernel : decode zY_117.2.1 0 = .ok (.iload_n 2, 1)) rfl
theorem zf_zm_117_1 (env : List (Nat × Nat)) : zI9 117 zY_117 zm_117 env (1, 40, 0, 0, 0) 56 := zi_switch (df := 69) (lo := 0) (tg := [2, 8, 14, 20, 25, 31, 37, 43, 49, 61]) (by decide +kernel : decode zY_117.2.1 1 = .ok (.tableswitch 156 0 9 #[55, 63, 71, 79, 86, 94, 102, 110, 118, 141], 55)) rfl (by decide) (by decide +kernel) (by decide +kernel)
theorem zf_zm_117_2 (env : List (Nat × Nat)) : zI9 117 zY_117 zm_117 env (56, 0, 0, 0, 0) 57 := zi_aload_n (by decide +kernel : decode zY_117.2.1 56 = .ok (.aload_n 0, 1)) rfl
theorem zf_zm_117_3 (env : List (Nat × Nat)) : zI9 117 zY_117 zm_117 env (57, 1, 13, 3, 2) 60 := zi_getf (i := 9) (N := 38) (C := "TransportPairModel$Book") (ref := "TransportPairModel$Book") (T := zF_13) (by decide +kernel : decode zY_117.2.1 57 = .ok (.getfield 9, 3)) rfl zuw_13 (by decide) (zw_T zwd_536) rfl
theorem zf_zm_117_4 (env : List (Nat × Nat)) : zI9 117 zY_117 zm_117 env (60, 63, 1, 0, 0) 61 := zi_iload_n (by decide +kernel : decode zY_117.2.1 60 = .ok (.iload_n 1, 1)) rfl
theorem zf_zm_117_5 (env : List (Nat × Nat)) : zI9 117 zY_117 zm_117 env (61, 8, 0, 0, 0) 62 := zi_iald (zscr_ok (by decide +kernel : decode zY_117.2.1 61 = .ok (.iaload, 1))) (by decide +kernel : decode zY_117.2.1 61 = .ok (.iaload, 1))
theorem zf_zm_117_6 (env : List (Nat × Nat)) : zI9 117 zY_117 zm_117 env (62, 16, 0, 0, 0) 63 := zi_i2l (by decide +kernel : decode zY_117.2.1 62 = .ok (.i2l, 1))
theorem zf_zm_117_7 (env : List (Nat × Nat)) : zR9 117 env (63, 11, 1, 0, 0) := zi_lret (by decide +kernel : decode (zYf 117).2.1 63 = .ok (.lreturn, 1)) rfl
theorem zf_zm_117_8 (env : List (Nat × Nat)) : zI9 117 zY_117 zm_117 env (64, 0, 0, 0, 0) 65 := zi_aload_n (by decide +kernel : decode zY_117.2.1 64 = .ok (.aload_n 0, 1)) rfl
theorem zf_zm_117_9 (env : List (Nat × Nat)) : zI9 117 zY_117 zm_117 env (65, 1, 13, 12, 2) 68 := zi_getf (i := 41) (N := 38) (C := "TransportPairModel$Book") (ref := "TransportPairModel$Book") (T := zF_13) (by decide +kernel : decode zY_117.2.1 65 = .ok (.getfield 41, 3)) rfl zuw_13 (by decide) (zw_T zwd_545) rfl
theorem zf_zm_117_10 (env : List (Nat × Nat)) : zI9 117 zY_117 zm_117 env (68, 63, 1, 0, 0) 69 := zi_iload_n (by decide +kernel : decode zY_117.2.1 68 = .ok (.iload_n 1, 1)) rfl
theorem zf_zm_117_11 (env : List (Nat × Nat)) : zI9 117 zY_117 zm_117 env (69, 8, 0, 0, 0) 70 := zi_iald (zscr_ok (by decide +kernel : decode zY_117.2.1 69 = .ok (.iaload, 1))) (by decide +kernel : decode zY_117.2.1 69 = .ok (.iaload, 1))
theorem zf_zm_117_12 (env : List (Nat × Nat)) : zI9 117 zY_117 zm_117 env (70, 16, 0, 0, 0) 71 := zi_i2l (by decide +kernel : decode zY_117.2.1 70 = .ok (.i2l, 1))
theorem zf_zm_117_13 (env : List (Nat × Nat)) : zR9 117 env (71, 11, 1, 0, 0) := zi_lret (by decide +kernel : decode (zYf 117).2.1 71 = .ok (.lreturn, 1)) rfl
theorem zf_zm_117_14 (env : List (Nat × Nat)) : zI9 117 zY_117 zm_117 env (72, 0, 0, 0, 0) 73 := zi_aload_n (by decide +kernel : decode zY_117.2.1 72 = .ok (.aload_n 0, 1)) rfl
theorem zf_zm_117_15 (env : List (Nat × Nat)) : zI9 117 zY_117 zm_117 env (73, 1, 13, 13, 2) 76 := zi_getf (i := 44) (N := 38) (C := "TransportPairModel$Book") (ref := "TransportPairModel$Book") (T := zF_13) (by decide +kernel : decode zY_117.2.1 73 = .ok (.getfield 44, 3)) rfl zuw_13 (by decide) (zw_T zwd_546) rfl
theorem zf_zm_117_16 (env : List (Nat × Nat)) : zI9 117 zY_117 zm_117 env (76, 63, 1, 0, 0) 77 := zi_iload_n (by decide +kernel : decode zY_117.2.1 76 = .ok (.iload_n 1, 1)) rfl
theorem zf_zm_117_17 (env : List (Nat × Nat)) : zI9 117 zY_117 zm_117 env (77, 8, 0, 0, 0) 78 := zi_iald (zscr_ok (by decide +kernel : decode zY_117.2.1 77 = .ok (.iaload, 1))) (by decide +kernel : decode zY_117.2.1 77 = .ok (.iaload, 1))
theorem zf_zm_117_18 (env : List (Nat × Nat)) : zI9 117 zY_117 zm_117 env (78, 16, 0, 0, 0) 79 := zi_i2l (by decide +kernel : decode zY_117.2.1 78 = .ok (.i2l, 1))
theorem zf_zm_117_19 (env : List (Nat × Nat)) : zR9 117 env (79, 11, 1, 0, 0) := zi_lret (by decide +kernel : decode (zYf 117).2.1 79 = .ok (.lreturn, 1)) rfl
theorem zf_zm_117_20 (env : List (Nat × Nat)) : zI9 117 zY_117 zm_117 env (80, 0, 0, 0, 0) 81 := zi_aload_n (by decide +kernel : decode zY_117.2.1 80 = .ok (.aload_n 0, 1)) rfl
theorem zf_zm_117_21 (env : List (Nat × Nat)) : zI9 117 zY_117 zm_117 env (81, 63, 1, 0, 0) 82 := zi_iload_n (by decide +kernel : decode zY_117.2.1 81 = .ok (.iload_n 1, 1)) rfl
theorem zf_zm_117_22 (env : List (Nat × Nat)) : zC9 117 zm_117 env (82, 66, 114, 132, 15) := zi_call (by decide +kernel) (zr_V (i := 183) (n := 1) (q := ("TransportPairModel$Book", zF_13, 38)) zX_ok rfl (zgood_114) (by decide +kernel) (zw_T zwd_307) (zw_T zwd_581) (zw_T zwd_582) rfl (zw_T zwd_583) ⟨by decide +kernel, by decide +kernel, by decide +kernel⟩ rfl (by decide +kernel : decode (zYf 117).2.1 82 = .ok (.invokevirtual 183, 3)))
theorem zf_zm_117_23 (env : List (Nat × Nat)) : zI9 117 zY_117 zm_117 env (85, 16, 0, 0, 0) 86 := zi_i2l (by decide +kernel : decode zY_117.2.1 85 = .ok (.i2l, 1))
theorem zf_zm_117_24 (env : List (Nat × Nat)) : zR9 117 env (86, 11, 1, 0, 0) := zi_lret (by decide +kernel : decode (zYf 117).2.1 86 = .ok (.lreturn, 1)) rfl
theorem zf_zm_117_25 (env : List (Nat × Nat)) : zI9 117 zY_117 zm_117 env (87, 0, 0, 0, 0) 88 := zi_aload_n (by decide +kernel : decode zY_117.2.1 87 = .ok (.aload_n 0, 1)) rfl
theorem zf_zm_117_26 (env : List (Nat × Nat)) : zI9 117 zY_117 zm_117 env (88, 63, 1, 0, 0) 89 := zi_iload_n (by decide +kernel : decode zY_117.2.1 88 = .ok (.iload_n 1, 1)) rfl
theorem zf_zm_117_27 (env : List (Nat × Nat)) : zI9 117 zY_117 zm_117 env (89, 2, 1, 0, 0) 90 := zi_iconst (by decide +kernel : decode zY_117.2.1 89 = .ok (.iconst 1, 1)) (by decide +kernel)
theorem zf_zm_117_28 (env : List (Nat × Nat)) : zC9 117 zm_117 env (90, 66, 110, 197, 15) := zi_call (by decide +kernel) (zr_V (i := 203) (n := 2) (q := ("TransportPairModel$Book", zF_13, 38)) zX_ok rfl (zgood_110) (by decide +kernel) (zw_T zwd_307) (zw_T zwd_590) (zw_T zwd_591) rfl (zw_T zwd_592) ⟨by decide +kernel, by decide +kernel, by decide +kernel⟩ rfl (by decide +kernel : decode (zYf 117).2.1 90 = .ok (.invokevirtual 203, 3)))
theorem zf_zm_117_29 (env : List (Nat × Nat)) : zI9 117 zY_117 zm_117 env (93, 16, 0, 0, 0) 94 := zi_i2l (by decide +kernel : decode zY_117.2.1 93 = .ok (.i2l, 1))
theorem zf_zm_117_30 (env : List (Nat × Nat)) : zR9 117 env (94, 11, 1, 0, 0) := zi_lret (by decide +kernel : decode (zYf 117).2.1 94 = .ok (.lreturn, 1)) rfl
theorem zf_zm_117_31 (env : List (Nat × Nat)) : zI9 117 zY_117 zm_117 env (95, 0, 0, 0, 0) 96 := zi_aload_n (by decide +kernel : decode zY_117.2.1 95 = .ok (.aload_n 0, 1)) rfl
theorem zf_zm_117_32 (env : List (Nat × Nat)) : zI9 117 zY_117 zm_117 env (96, 63, 1, 0, 0) 97 := zi_iload_n (by decide +kernel : decode zY_117.2.1 96 = .ok (.iload_n 1, 1)) rfl
theorem zf_zm_117_33 (env : List (Nat × Nat)) : zI9 117 zY_117 zm_117 env (97, 2, 0, 0, 0) 98 := zi_iconst (by decide +kernel : decode zY_117.2.1 97 = .ok (.iconst 0, 1)) (by decide +kernel)
theorem zf_zm_117_34 (env : List (Nat × Nat)) : zC9 117 zm_117 env (98, 66, 110, 197, 15) := zi_call (by decide +kernel) (zr_V (i := 203) (n := 2) (q := ("TransportPairModel$Book", zF_13, 38)) zX_ok rfl (zgood_110) (by decide +kernel) (zw_T zwd_307) (zw_T zwd_590) (zw_T zwd_591) rfl (zw_T zwd_592) ⟨by decide +kernel, by decide +kernel, by decide +kernel⟩ rfl (by decide +kernel : decode (zYf 117).2.1 98 = .ok (.invokevirtual 203, 3)))
theorem zf_zm_117_35 (env : List (Nat × Nat)) : zI9 117 zY_117 zm_117 env (101, 16, 0, 0, 0) 102 := zi_i2l (by decide +kernel : decode zY_117.2.1 101 = .ok (.i2l, 1))
theorem zf_zm_117_36 (env : List (Nat × Nat)) : zR9 117 env (102, 11, 1, 0, 0) := zi_lret (by decide +kernel : decode (zYf 117).2.1 102 = .ok (.lreturn, 1)) rfl
theorem zf_zm_117_37 (env : List (Nat × Nat)) : zI9 117 zY_117 zm_117 env (103, 0, 0, 0, 0) 104 := zi_aload_n (by decide +kernel : decode zY_117.2.1 103 = .ok (.aload_n 0, 1)) rfl
theorem zf_zm_117_38 (env : List (Nat × Nat)) : zI9 117 zY_117 zm_117 env (104, 1, 13, 30, 2) 107 := zi_getf (i := 86) (N := 38) (C := "TransportPairModel$Book") (ref := "TransportPairModel$Book") (T := zF_13) (by decide +kernel : decode zY_117.2.1 104 = .ok (.getfield 86, 3)) rfl zuw_13 (by decide) (zw_T zwd_560) rfl
theorem zf_zm_117_39 (env : List (Nat × Nat)) : zI9 117 zY_117 zm_117 env (107, 63, 1, 0, 0) 108 := zi_iload_n (by decide +kernel : decode zY_117.2.1 107 = .ok (.iload_n 1, 1)) rfl
theorem zf_zm_117_40 (env : List (Nat × Nat)) : zI9 117 zY_117 zm_117 env (108, 8, 0, 0, 0) 109 := zi_iald (zscr_ok (by decide +kernel : decode zY_117.2.1 108 = .ok (.iaload, 1))) (by decide +kernel : decode zY_117.2.1 108 = .ok (.iaload, 1))
theorem zf_zm_117_41 (env : List (Nat × Nat)) : zI9 117 zY_117 zm_117 env (109, 16, 0, 0, 0) 110 := zi_i2l (by decide +kernel : decode zY_117.2.1 109 = .ok (.i2l, 1))
theorem zf_zm_117_42 (env : List (Nat × Nat)) : zR9 117 env (110, 11, 1, 0, 0) := zi_lret (by decide +kernel : decode (zYf 117).2.1 110 = .ok (.lreturn, 1)) rfl
theorem zf_zm_117_43 (env : List (Nat × Nat)) : zI9 117 zY_117 zm_117 env (111, 0, 0, 0, 0) 112 := zi_aload_n (by decide +kernel : decode zY_117.2.1 111 = .ok (.aload_n 0, 1)) rfl
theorem zf_zm_117_44 (env : List (Nat × Nat)) : zI9 117 zY_117 zm_117 env (112, 1, 13, 35, 2) 115 := zi_getf (i := 101) (N := 38) (C := "TransportPairModel$Book") (ref := "TransportPairModel$Book") (T := zF_13) (by decide +kernel : decode zY_117.2.1 112 = .ok (.getfield 101, 3)) rfl zuw_13 (by decide) (zw_T zwd_565) rfl
theorem zf_zm_117_45 (env : List (Nat × Nat)) : zI9 117 zY_117 zm_117 env (115, 63, 1, 0, 0) 116 := zi_iload_n (by decide +kernel : decode zY_117.2.1 115 = .ok (.iload_n 1, 1)) rfl
theorem zf_zm_117_46 (env : List (Nat × Nat)) : zI9 117 zY_117 zm_117 env (116, 8, 0, 0, 0) 117 := zi_iald (zscr_ok (by decide +kernel : decode zY_117.2.1 116 = .ok (.iaload, 1))) (by decide +kernel : decode zY_117.2.1 116 = .ok (.iaload, 1))
theorem zf_zm_117_47 (env : List (Nat × Nat)) : zI9 117 zY_117 zm_117 env (117, 16, 0, 0, 0) 118 := zi_i2l (by decide +kernel : decode zY_117.2.1 117 = .ok (.i2l, 1))
theorem zf_zm_117_48 (env : List (Nat × Nat)) : zR9 117 env (118, 11, 1, 0, 0) := zi_lret (by decide +kernel : decode (zYf 117).2.1 118 = .ok (.lreturn, 1)) rfl
theorem zf_zm_117_49 (env : List (Nat × Nat)) : zI9 117 zY_117 zm_117 env (119, 0, 0, 0, 0) 120 := zi_aload_n (by decide +kernel : decode zY_117.2.1 119 = .ok (.aload_n 0, 1)) rfl
theorem zf_zm_117_50 (env : List (Nat × Nat)) : zI9 117 zY_117 zm_117 env (120, 63, 1, 0, 0) 121 := zi_iload_n (by decide +kernel : decode zY_117.2.1 120 = .ok (.iload_n 1, 1)) rfl
theorem zf_zm_117_51 (env : List (Nat × Nat)) : zI9 117 zY_117 zm_117 env (121, 2, 2, 0, 0) 122 := zi_iconst (by decide +kernel : decode zY_117.2.1 121 = .ok (.iconst 2, 1)) (by decide +kernel)
theorem zf_zm_117_52 (env : List (Nat × Nat)) : zI9 117 zY_117 zm_117 env (122, 29, 57, 0, 0) 125 := zi_icmp_ne (off := 14) (t := 136) (by decide +kernel : decode zY_117.2.1 122 = .ok (.if_icmp .ne 14, 3)) (by decide) (by decide +kernel)
theorem zf_zm_117_53 (env : List (Nat × Nat)) : zI9 117 zY_117 zm_117 env (125, 0, 0, 0, 0) 126 := zi_aload_n (by decide +kernel : decode zY_117.2.1 125 = .ok (.aload_n 0, 1)) rfl
theorem zf_zm_117_54 (env : List (Nat × Nat)) : zI9 117 zY_117 zm_117 env (126, 1, 13, 1, 3) 129 := zi_getf (i := 121) (N := 38) (C := "TransportPairModel$Book") (ref := "TransportPairModel$Book") (T := zF_13) (by decide +kernel : decode zY_117.2.1 126 = .ok (.getfield 121, 3)) rfl zuw_13 (by decide) (zw_T zwd_571) rfl
theorem zf_zm_117_55 (env : List (Nat × Nat)) : zI9 117 zY_117 zm_117 env (129, 5, 57, 0, 0) 132 := zi_if_eq (off := 7) (t := 136) (by decide +kernel : decode zY_117.2.1 129 = .ok (.ifCond .eq 7, 3)) (by decide) (by decide +kernel)
theorem zf_zm_117_56 (env : List (Nat × Nat)) : zI9 117 zY_117 zm_117 env (132, 99, 0, 0, 0) 136 := zi_none
theorem zf_zm_117_57 (env : List (Nat × Nat)) : zI9 117 zY_117 zm_117 env (136, 2, 0, 0, 0) 137 := zi_iconst (by decide +kernel : decode zY_117.2.1 136 = .ok (.iconst 0, 1)) (by decide +kernel)
theorem zf_zm_117_58 (env : List (Nat × Nat)) : zC9 117 zm_117 env (137, 66, 112, 130, 15) := zi_call (by decide +kernel) (zr_V (i := 125) (n := 1) (q := ("TransportPairModel$Book", zF_13, 38)) zX_ok rfl (zgood_112) (by decide +kernel) (zw_T zwd_307) (zw_T zwd_572) (zw_T zwd_573) rfl (zw_T zwd_574) ⟨by decide +kernel, by decide +kernel, by decide +kernel⟩ rfl (by decide +kernel : decode (zYf 117).2.1 137 = .ok (.invokevirtual 125, 3)))
theorem zf_zm_117_59 (env : List (Nat × Nat)) : zI9 117 zY_117 zm_117 env (140, 16, 0, 0, 0) 141 := zi_i2l (by decide +kernel : decode zY_117.2.1 140 = .ok (.i2l, 1))
theorem zf_zm_117_60 (env : List (Nat × Nat)) : zR9 117 env (141, 11, 1, 0, 0) := zi_lret (by decide +kernel : decode (zYf 117).2.1 141 = .ok (.lreturn, 1)) rfl
theorem zf_zm_117_61 (env : List (Nat × Nat)) : zI9 117 zY_117 zm_117 env (142, 0, 0, 0, 0) 143 := zi_aload_n (by decide +kernel : decode zY_117.2.1 142 = .ok (.aload_n 0, 1)) rfl
theorem zf_zm_117_62 (env : List (Nat × Nat)) : zI9 117 zY_117 zm_117 env (143, 1, 13, 11, 2) 146 := zi_getf (i := 38) (N := 38) (C := "TransportPairModel$Book") (ref := "TransportPairModel$Book") (T := zF_13) (by decide +kernel : decode zY_117.2.1 143 = .ok (.getfield 38, 3)) rfl zuw_13 (by decide) (zw_T zwd_544) rfl
theorem zf_zm_117_63 (env : List (Nat × Nat)) : zI9 117 zY_117 zm_117 env (146, 63, 1, 0, 0) 147 := zi_iload_n (by decide +kernel : decode zY_117.2.1 146 = .ok (.iload_n 1, 1)) rfl
theorem zf_zm_117_64 (env : List (Nat × Nat)) : zI9 117 zY_117 zm_117 env (147, 62, 0, 0, 0) 148 := zi_bald (by decide +kernel : decode zY_117.2.1 147 = .ok (.baload, 1))
theorem zf_zm_117_65 (env : List (Nat × Nat)) : zI9 117 zY_117 zm_117 env (148, 5, 67, 0, 0) 151 := zi_if_eq (off := 7) (t := 155) (by decide +kernel : decode zY_117.2.1 148 = .ok (.ifCond .eq 7, 3)) (by decide) (by decide +kernel)
theorem zf_zm_117_66 (env : List (Nat × Nat)) : zI9 117 zY_117 zm_117 env (151, 99, 0, 0, 0) 155 := zi_none
theorem zf_zm_117_67 (env : List (Nat × Nat)) : zI9 117 zY_117 zm_117 env (155, 15, 0, 0, 0) 156 := zi_lconst (by decide +kernel : decode zY_117.2.1 155 = .ok (.lconst 0, 1)) (by decide +kernel)
theorem zf_zm_117_68 (env : List (Nat × Nat)) : zR9 117 env (156, 11, 1, 0, 0) := zi_lret (by decide +kernel : decode (zYf 117).2.1 156 = .ok (.lreturn, 1)) rfl
theorem zf_zm_117_69 (env : List (Nat × Nat)) : zI9 117 zY_117 zm_117 env (157, 0, 0, 0, 0) 158 := zi_aload_n (by decide +kernel : decode zY_117.2.1 157 = .ok (.aload_n 0, 1)) rfl
theorem zf_zm_117_70 (env : List (Nat × Nat)) : zI9 117 zY_117 zm_117 env (158, 1, 13, 33, 2) 161 := zi_getf (i := 95) (N := 38) (C := "TransportPairModel$Book") (ref := "TransportPairModel$Book") (T := zF_13) (by decide +kernel : decode zY_117.2.1 158 = .ok (.getfield 95, 3)) rfl zuw_13 (by decide) (zw_T zwd_563) rfl
theorem zf_zm_117_71 (env : List (Nat × Nat)) : zI9 117 zY_117 zm_117 env (161, 63, 1, 0, 0) 162 := zi_iload_n (by decide +kernel : decode zY_117.2.1 161 = .ok (.iload_n 1, 1)) rfl
theorem zf_zm_117_72 (env : List (Nat × Nat)) : zI9 117 zY_117 zm_117 env (162, 26, 0, 0, 0) 163 := zi_lald (by decide +kernel : decode zY_117.2.1 162 = .ok (.laload, 1))
theorem zf_zm_117_73 (env : List (Nat × Nat)) : zR9 117 env (163, 11, 1, 0, 0) := zi_lret (by decide +kernel : decode (zYf 117).2.1 163 = .ok (.lreturn, 1)) rfl
set_option maxRecDepth 100000 in
theorem zc_zm_117 (env : List (Nat × Nat)) : zcode zX (z_QF zEX zcl zft) (z_zm zEX zX zWL zcl zft zYf) zYf zW zET zcl zft (zGv env) 117 zm_117 zm_117.1 := ⟨Or.inl ⟨1, zf_zm_117_0 env, zpc_c⟩,
  Or.inl ⟨56, zf_zm_117_1 env, zpc_c⟩,
  Or.inl ⟨57, zf_zm_117_2 env, zpc_c⟩,
  Or.inl ⟨60, zf_zm_117_3 env, zpc_c⟩,
  Or.inl ⟨61, zf_zm_117_4 env, zpc_c⟩,
  Or.inl ⟨62, zf_zm_117_5 env, zpc_c⟩,
  Or.inl ⟨63, zf_zm_117_6 env, zpc_c⟩,
  Or.inr (Or.inl (zf_zm_117_7 env)),
  Or.inl ⟨65, zf_zm_117_8 env, zpc_c⟩,
  Or.inl ⟨68, zf_zm_117_9 env, zpc_c⟩,
  Or.inl ⟨69, zf_zm_117_10 env, zpc_c⟩,
  Or.inl ⟨70, zf_zm_117_11 env, zpc_c⟩,
  Or.inl ⟨71, zf_zm_117_12 env, zpc_c⟩,
  Or.inr (Or.inl (zf_zm_117_13 env)),
  Or.inl ⟨73, zf_zm_117_14 env, zpc_c⟩,
  Or.inl ⟨76, zf_zm_117_15 env, zpc_c⟩,
  Or.inl ⟨77, zf_zm_117_16 env, zpc_c⟩,
  Or.inl ⟨78, zf_zm_117_17 env, zpc_c⟩,
  Or.inl ⟨79, zf_zm_117_18 env, zpc_c⟩,
  Or.inr (Or.inl (zf_zm_117_19 env)),
  Or.inl ⟨81, zf_zm_117_20 env, zpc_c⟩,
  Or.inl ⟨82, zf_zm_117_21 env, zpc_c⟩,
  Or.inr (Or.inr (Or.inl ⟨zf_zm_117_22 env, zpc_c⟩)),
  Or.inl ⟨86, zf_zm_117_23 env, zpc_c⟩,
  Or.inr (Or.inl (zf_zm_117_24 env)),
  Or.inl ⟨88, zf_zm_117_25 env, zpc_c⟩,
  Or.inl ⟨89, zf_zm_117_26 env, zpc_c⟩,
  Or.inl ⟨90, zf_zm_117_27 env, zpc_c⟩,
  Or.inr (Or.inr (Or.inl ⟨zf_zm_117_28 env, zpc_c⟩)),
  Or.inl ⟨94, zf_zm_117_29 env, zpc_c⟩,
  Or.inr (Or.inl (zf_zm_117_30 env)),
  Or.inl ⟨96, zf_zm_117_31 env, zpc_c⟩,
  Or.inl ⟨97, zf_zm_117_32 env, zpc_c⟩,
  Or.inl ⟨98, zf_zm_117_33 env, zpc_c⟩,
  Or.inr (Or.inr (Or.inl ⟨zf_zm_117_34 env, zpc_c⟩)),
  Or.inl ⟨102, zf_zm_117_35 env, zpc_c⟩,
  Or.inr (Or.inl (zf_zm_117_36 env)),
  Or.inl ⟨104, zf_zm_117_37 env, zpc_c⟩,
  Or.inl ⟨107, zf_zm_117_38 env, zpc_c⟩,
  Or.inl ⟨108, zf_zm_117_39 env, zpc_c⟩,
  Or.inl ⟨109, zf_zm_117_40 env, zpc_c⟩,
  Or.inl ⟨110, zf_zm_117_41 env, zpc_c⟩,
  Or.inr (Or.inl (zf_zm_117_42 env)),
  Or.inl ⟨112, zf_zm_117_43 env, zpc_c⟩,
  Or.inl ⟨115, zf_zm_117_44 env, zpc_c⟩,
  Or.inl ⟨116, zf_zm_117_45 env, zpc_c⟩,
  Or.inl ⟨117, zf_zm_117_46 env, zpc_c⟩,
  Or.inl ⟨118, zf_zm_117_47 env, zpc_c⟩,
  Or.inr (Or.inl (zf_zm_117_48 env)),
  Or.inl ⟨120, zf_zm_117_49 env, zpc_c⟩,
  Or.inl ⟨121, zf_zm_117_50 env, zpc_c⟩,
  Or.inl ⟨122, zf_zm_117_51 env, zpc_c⟩,
  Or.inl ⟨125, zf_zm_117_52 env, zpc_c⟩,
  Or.inl ⟨126, zf_zm_117_53 env, zpc_c⟩,
  Or.inl ⟨129, zf_zm_117_54 env, zpc_c⟩,
  Or.inl ⟨132, zf_zm_117_55 env, zpc_c⟩,
  Or.inl ⟨136, zf_zm_117_56 env, zpc_c⟩,
  Or.inl ⟨137, zf_zm_117_57 env, zpc_c⟩,
  Or.inr (Or.inr (Or.inl ⟨zf_zm_117_58 env, zpc_c⟩)),
  Or.inl ⟨141, zf_zm_117_59 env, zpc_c⟩,
  Or.inr (Or.inl (zf_zm_117_60 env)),
  Or.inl ⟨143, zf_zm_117_61 env, zpc_c⟩,
  Or.inl ⟨146, zf_zm_117_62 env, zpc_c⟩,
  Or.inl ⟨147, zf_zm_117_63 env, zpc_c⟩,
  Or.inl ⟨148, zf_zm_117_64 env, zpc_c⟩,
  Or.inl ⟨151, zf_zm_117_65 env, zpc_c⟩,
  Or.inl ⟨155, zf_zm_117_66 env, zpc_c⟩,
  Or.inl ⟨156, zf_zm_117_67 env, zpc_c⟩,
  Or.inr (Or.inl (zf_zm_117_68 env)),
  Or.inl ⟨158, zf_zm_117_69 env, zpc_c⟩,
  Or.inl ⟨161, zf_zm_117_70 env, zpc_c⟩,
  Or.inl ⟨162, zf_zm_117_71 env, zpc_c⟩,
  Or.inl ⟨163, zf_zm_117_72 env, zpc_c⟩,
  Or.inr (Or.inl (zf_zm_117_73 env)), trivial⟩
theorem zf_zm_118_0 (env : List (Nat × Nat)) : zI9 118 zY_118 zm_118 env (0, 0, 0, 0, 0) 1 := zi_aload_n (by decide +kernel : decode zY_118.2.1 0 = .ok (.aload_n 0, 1)) rfl
theorem zf_zm_118_1 (env : List (Nat × Nat)) : zI9 118 zY_118 zm_118 env (1, 60, 0, 0, 0) 4 := zi_obj (i := 1) (by decide +kernel : decode zY_118.2.1 1 = .ok (.invokespecial 1, 3)) (zw_T zwd_593) (zw_T zwd_11) (zw_T zwd_12)
theorem zf_zm_118_2 (env : List (Nat × Nat)) : zI9 118 zY_118 zm_118 env (4, 0, 0, 0, 0) 5 := zi_aload_n (by decide +kernel : decode zY_118.2.1 4 = .ok (.aload_n 0, 1)) rfl
theorem zf_zm_118_3 (env : List (Nat × Nat)) : zI9 118 zY_118 zm_118 env (5, 2, 64, 0, 0) 7 := zi_bipush (by decide +kernel : decode zY_118.2.1 5 = .ok (.bipush 64, 2)) (by decide +kernel)
theorem zf_zm_118_4 (env : List (Nat × Nat)) : zI9 118 zY_118 zm_118 env (7, 12, 0, 1, 0) 9 := zi_newI (by decide +kernel : decode zY_118.2.1 7 = .ok (.newarray .byte, 2)) (zw_T zwd_79) rfl rfl (by decide) rfl
theorem zf_zm_118_5 (env : List (Nat × Nat)) : zI9 118 zY_118 zm_118 env (9, 4, 14, 1, 2) 12 := zi_putf (i := 7) (N := 6) (C := "TransportPairModel$Cargo") (ref := "TransportPairModel$Cargo") (T := zF_14) (by decide +kernel : decode zY_118.2.1 9 = .ok (.putfield 7, 3)) rfl zuw_14 zFt_14 zFn_14 (by decide) (zw_T zwd_594) rfl rfl (ty := .array .byte) (by decide +kernel) (Or.inr ⟨_, rfl⟩)
theorem zf_zm_118_6 (env : List (Nat × Nat)) : zI9 118 zY_118 zm_118 env (12, 0, 0, 0, 0) 13 := zi_aload_n (by decide +kernel : decode zY_118.2.1 12 = .ok (.aload_n 0, 1)) rfl
theorem zf_zm_118_7 (env : List (Nat × Nat)) : zI9 118 zY_118 zm_118 env (13, 2, 64, 0, 0) 15 := zi_bipush (by decide +kernel : decode zY_118.2.1 13 = .ok (.bipush 64, 2)) (by decide +kernel)
theorem zf_zm_118_8 (env : List (Nat × Nat)) : zI9 118 zY_118 zm_118 env (15, 12, 0, 0, 0) 17 := zi_newI (by decide +kernel : decode zY_118.2.1 15 = .ok (.newarray .int, 2)) (zw_T zwd_16) rfl rfl (by decide) rfl
theorem zf_zm_118_9 (env : List (Nat × Nat)) : zI9 118 zY_118 zm_118 env (17, 4, 14, 2, 2) 20 := zi_putf (i := 13) (N := 6) (C := "TransportPairModel$Cargo") (ref := "TransportPairModel$Cargo") (T := zF_14) (by decide +kernel : decode zY_118.2.1 17 = .ok (.putfield 13, 3)) rfl zuw_14 zFt_14 zFn_14 (by decide) (zw_T zwd_595) rfl rfl (ty := .array .int) (by decide +kernel) (Or.inr ⟨_, rfl⟩)
theorem zf_zm_118_10 (env : List (Nat × Nat)) : zI9 118 zY_118 zm_118 env (20, 0, 0, 0, 0) 21 := zi_aload_n (by decide +kernel : decode zY_118.2.1 20 = .ok (.aload_n 0, 1)) rfl
theorem zf_zm_118_11 (env : List (Nat × Nat)) : zI9 118 zY_118 zm_118 env (21, 2, 64, 0, 0) 23 := zi_bipush (by decide +kernel : decode zY_118.2.1 21 = .ok (.bipush 64, 2)) (by decide +kernel)
theorem zf_zm_118_12 (env : List (Nat × Nat)) : zI9 118 zY_118 zm_118 env (23, 12, 1, 3, 0) 25 := zi_newL (by decide +kernel : decode zY_118.2.1 23 = .ok (.newarray .long, 2)) (zw_T zwd_13) rfl rfl
theorem zf_zm_118_13 (env : List (Nat × Nat)) : zI9 118 zY_118 zm_118 env (25, 4, 14, 3, 2) 28 := zi_putf (i := 17) (N := 6) (C := "TransportPairModel$Cargo") (ref := "TransportPairModel$Cargo") (T := zF_14) (by decide +kernel : decode zY_118.2.1 25 = .ok (.putfield 17, 3)) rfl zuw_14 zFt_14 zFn_14 (by decide) (zw_T zwd_596) rfl rfl (ty := .array .long) (by decide +kernel) (Or.inr ⟨_, rfl⟩)
theorem zf_zm_118_14 (env : List (Nat × Nat)) : zI9 118 zY_118 zm_118 env (28, 0, 0, 0, 0) 29 := zi_aload_n (by decide +kernel : decode zY_118.2.1 28 = .ok (.aload_n 0, 1)) rfl
theorem zf_zm_118_15 (env : List (Nat × Nat)) : zI9 118 zY_118 zm_118 env (29, 2, 64, 0, 0) 31 := zi_bipush (by decide +kernel : decode zY_118.2.1 29 = .ok (.bipush 64, 2)) (by decide +kernel)
theorem zf_zm_118_16 (env : List (Nat × Nat)) : zI9 118 zY_118 zm_118 env (31, 12, 1, 3, 0) 33 := zi_newL (by decide +kernel : decode zY_118.2.1 31 = .ok (.newarray .long, 2)) (zw_T zwd_13) rfl rfl
theorem zf_zm_118_17 (env : List (Nat × Nat)) : zI9 118 zY_118 zm_118 env (33, 4, 14, 4, 2) 36 := zi_putf (i := 21) (N := 6) (C := "TransportPairModel$Cargo") (ref := "TransportPairModel$Cargo") (T := zF_14) (by decide +kernel : decode zY_118.2.1 33 = .ok (.putfield 21, 3)) rfl zuw_14 zFt_14 zFn_14 (by decide) (zw_T zwd_597) rfl rfl (ty := .array .long) (by decide +kernel) (Or.inr ⟨_, rfl⟩)
theorem zf_zm_118_18 (env : List (Nat × Nat)) : zI9 118 zY_118 zm_118 env (36, 0, 0, 0, 0) 37 := zi_aload_n (by decide +kernel : decode zY_118.2.1 36 = .ok (.aload_n 0, 1)) rfl
theorem zf_zm_118_19 (env : List (Nat × Nat)) : zI9 118 zY_118 zm_118 env (37, 2, 64, 0, 0) 39 := zi_bipush (by decide +kernel : decode zY_118.2.1 37 = .ok (.bipush 64, 2)) (by decide +kernel)
theorem zf_zm_118_20 (env : List (Nat × Nat)) : zI9 118 zY_118 zm_118 env (39, 12, 0, 1, 0) 41 := zi_newI (by decide +kernel : decode zY_118.2.1 39 = .ok (.newarray .byte, 2)) (zw_T zwd_79) rfl rfl (by decide) rfl
theorem zf_zm_118_21 (env : List (Nat × Nat)) : zI9 118 zY_118 zm_118 env (41, 4, 14, 5, 2) 44 := zi_putf (i := 24) (N := 6) (C := "TransportPairModel$Cargo") (ref := "TransportPairModel$Cargo") (T := zF_14) (by decide +kernel : decode zY_118.2.1 41 = .ok (.putfield 24, 3)) rfl zuw_14 zFt_14 zFn_14 (by decide) (zw_T zwd_598) rfl rfl (ty := .array .byte) (by decide +kernel) (Or.inr ⟨_, rfl⟩)
theorem zf_zm_118_22 (env : List (Nat × Nat)) : zR9 118 env (44, 21, 0, 0, 0) := zi_vret (by decide +kernel : decode (zYf 118).2.1 44 = .ok (.return_, 1)) rfl
set_option maxRecDepth 100000 in
theorem zc_zm_118 (env : List (Nat × Nat)) : zcode zX (z_QF zEX zcl zft) (z_zm zEX zX zWL zcl zft zYf) zYf zW zET zcl zft (zGv env) 118 zm_118 zm_118.1 := ⟨Or.inl ⟨1, zf_zm_118_0 env, zpc_c⟩,
  Or.inl ⟨4, zf_zm_118_1 env, zpc_c⟩,
  Or.inl ⟨5, zf_zm_118_2 env, zpc_c⟩,
  Or.inl ⟨7, zf_zm_118_3 env, zpc_c⟩,
  Or.inl ⟨9, zf_zm_118_4 env, zpc_c⟩,
  Or.inl ⟨12, zf_zm_118_5 env, zpc_c⟩,
  Or.inl ⟨13, zf_zm_118_6 env, zpc_c⟩,
  Or.inl ⟨15, zf_zm_118_7 env, zpc_c⟩,
  Or.inl ⟨17, zf_zm_118_8 env, zpc_c⟩,
  Or.inl ⟨20, zf_zm_118_9 env, zpc_c⟩,
  Or.inl ⟨21, zf_zm_118_10 env, zpc_c⟩,
  Or.inl ⟨23, zf_zm_118_11 env, zpc_c⟩,
  Or.inl ⟨25, zf_zm_118_12 env, zpc_c⟩,
  Or.inl ⟨28, zf_zm_118_13 env, zpc_c⟩,
  Or.inl ⟨29, zf_zm_118_14 env, zpc_c⟩,
  Or.inl ⟨31, zf_zm_118_15 env, zpc_c⟩,
  Or.inl ⟨33, zf_zm_118_16 env, zpc_c⟩,
  Or.inl ⟨36, zf_zm_118_17 env, zpc_c⟩,
  Or.inl ⟨37, zf_zm_118_18 env, zpc_c⟩,
  Or.inl ⟨39, zf_zm_118_19 env, zpc_c⟩,
  Or.inl ⟨41, zf_zm_118_20 env, zpc_c⟩,
  Or.inl ⟨44, zf_zm_118_21 env, zpc_c⟩,
  Or.inr (Or.inl (zf_zm_118_22 env)), trivial⟩
theorem zf_zm_119_0 (env : List (Nat × Nat)) : zI9 119 zY_119 zm_119 env (0, 0, 0, 0, 0) 1 := zi_aload_n (by decide +kernel : decode zY_119.2.1 0 = .ok (.aload_n 0, 1)) rfl
theorem zf_zm_119_1 (env : List (Nat × Nat)) : zI9 119 zY_119 zm_119 env (1, 60, 0, 0, 0) 4 := zi_obj (i := 1) (by decide +kernel : decode zY_119.2.1 1 = .ok (.invokespecial 1, 3)) (zw_T zwd_599) (zw_T zwd_11) (zw_T zwd_12)
theorem zf_zm_119_2 (env : List (Nat × Nat)) : zI9 119 zY_119 zm_119 env (4, 0, 0, 0, 0) 5 := zi_aload_n (by decide +kernel : decode zY_119.2.1 4 = .ok (.aload_n 0, 1)) rfl
theorem zf_zm_119_3 (env : List (Nat × Nat)) : zI9 119 zY_119 zm_119 env (5, 2, 1400, 0, 0) 8 := zi_sipush (by decide +kernel : decode zY_119.2.1 5 = .ok (.sipush 1400, 3)) (by decide +kernel)
theorem zf_zm_119_4 (env : List (Nat × Nat)) : zI9 119 zY_119 zm_119 env (8, 12, 0, 0, 0) 10 := zi_newI (by decide +kernel : decode zY_119.2.1 8 = .ok (.newarray .int, 2)) (zw_T zwd_16) rfl rfl (by decide) rfl
theorem zf_zm_119_5 (env : List (Nat × Nat)) : zI9 119 zY_119 zm_119 env (10, 4, 15, 0, 2) 13 := zi_putfF (i := 7) (N := 2) (C := "TransportPairModel$Draft") (ref := "TransportPairModel$Draft") (T := zF_15) (by decide +kernel : decode zY_119.2.1 10 = .ok (.putfield 7, 3)) rfl zuw_15 zFt_15 zFn_15 (by decide) (zw_T zwd_600) rfl rfl rfl rfl (ty := .array .int) (by decide +kernel) (Or.inr ⟨_, rfl⟩)
theorem zf_zm_119_6 (env : List (Nat × Nat)) : zR9 119 env (13, 21, 0, 0, 0) := zi_vret (by decide +kernel : decode (zYf 119).2.1 13 = .ok (.return_, 1)) rfl
set_option maxRecDepth 100000 in
theorem zc_zm_119 (env : List (Nat × Nat)) : zcode zX (z_QF zEX zcl zft) (z_zm zEX zX zWL zcl zft zYf) zYf zW zET zcl zft (zGv env) 119 zm_119 zm_119.1 := ⟨Or.inl ⟨1, zf_zm_119_0 env, zpc_c⟩,
  Or.inl ⟨4, zf_zm_119_1 env, zpc_c⟩,
  Or.inl ⟨5, zf_zm_119_2 env, zpc_c⟩,
  Or.inl ⟨8, zf_zm_119_3 env, zpc_c⟩,
  Or.inl ⟨10, zf_zm_119_4 env, zpc_c⟩,
  Or.inl ⟨13, zf_zm_119_5 env, zpc_c⟩,
  Or.inr (Or.inl (zf_zm_119_6 env)), trivial⟩
theorem zf_zm_120_0 (env : List (Nat × Nat)) : zI9 120 zY_120 zm_120 env (0, 0, 0, 0, 0) 1 := zi_aload_n (by decide +kernel : decode zY_120.2.1 0 = .ok (.aload_n 0, 1)) rfl
theorem zf_zm_120_1 (env : List (Nat × Nat)) : zI9 120 zY_120 zm_120 env (1, 60, 0, 0, 0) 4 := zi_obj (i := 3) (by decide +kernel : decode zY_120.2.1 1 = .ok (.invokespecial 3, 3)) (zw_T zwd_601) (zw_T zwd_11) (zw_T zwd_12)
theorem zf_zm_120_2 (env : List (Nat × Nat)) : zI9 120 zY_120 zm_120 env (4, 0, 0, 0, 0) 5 := zi_aload_n (by decide +kernel : decode zY_120.2.1 4 = .ok (.aload_n 0, 1)) rfl
theorem zf_zm_120_3 (env : List (Nat × Nat)) : zI9 120 zY_120 zm_120 env (5, 2, 32, 0, 0) 7 := zi_bipush (by decide +kernel : decode zY_120.2.1 5 = .ok (.bipush 32, 2)) (by decide +kernel)
theorem zf_zm_120_4 (env : List (Nat × Nat)) : zI9 120 zY_120 zm_120 env (7, 12, 0, 0, 0) 9 := zi_newI (by decide +kernel : decode zY_120.2.1 7 = .ok (.newarray .int, 2)) (zw_T zwd_16) rfl rfl (by decide) rfl
theorem zf_zm_120_5 (env : List (Nat × Nat)) : zI9 120 zY_120 zm_120 env (9, 4, 16, 2, 2) 12 := zi_putfF (i := 9) (N := 23) (C := "TransportPairModel$Greet") (ref := "TransportPairModel$Greet") (T := zF_16) (by decide +kernel : decode zY_120.2.1 9 = .ok (.putfield 9, 3)) rfl zuw_16 zFt_16 zFn_16 (by decide) (zw_T zwd_602) rfl rfl rfl rfl (ty := .array .int) (by decide +kernel) (Or.inr ⟨_, rfl⟩)
theorem zf_zm_120_6 (env : List (Nat × Nat)) : zI9 120 zY_120 zm_120 env (12, 0, 0, 0, 0) 13 := zi_aload_n (by decide +kernel : decode zY_120.2.1 12 = .ok (.aload_n 0, 1)) rfl
theorem zf_zm_120_7 (env : List (Nat × Nat)) : zI9 120 zY_120 zm_120 env (13, 2, 32, 0, 0) 15 := zi_bipush (by decide +kernel : decode zY_120.2.1 13 = .ok (.bipush 32, 2)) (by decide +kernel)
theorem zf_zm_120_8 (env : List (Nat × Nat)) : zI9 120 zY_120 zm_120 env (15, 12, 0, 0, 0) 17 := zi_newI (by decide +kernel : decode zY_120.2.1 15 = .ok (.newarray .int, 2)) (zw_T zwd_16) rfl rfl (by decide) rfl
theorem zf_zm_120_9 (env : List (Nat × Nat)) : zI9 120 zY_120 zm_120 env (17, 4, 16, 3, 2) 20 := zi_putfF (i := 15) (N := 23) (C := "TransportPairModel$Greet") (ref := "TransportPairModel$Greet") (T := zF_16) (by decide +kernel : decode zY_120.2.1 17 = .ok (.putfield 15, 3)) rfl zuw_16 zFt_16 zFn_16 (by decide) (zw_T zwd_603) rfl rfl rfl rfl (ty := .array .int) (by decide +kernel) (Or.inr ⟨_, rfl⟩)
theorem zf_zm_120_10 (env : List (Nat × Nat)) : zI9 120 zY_120 zm_120 env (20, 0, 0, 0, 0) 21 := zi_aload_n (by decide +kernel : decode zY_120.2.1 20 = .ok (.aload_n 0, 1)) rfl
theorem zf_zm_120_11 (env : List (Nat × Nat)) : zI9 120 zY_120 zm_120 env (21, 2, 300, 0, 0) 24 := zi_sipush (by decide +kernel : decode zY_120.2.1 21 = .ok (.sipush 300, 3)) (by decide +kernel)
theorem zf_zm_120_12 (env : List (Nat × Nat)) : zI9 120 zY_120 zm_120 env (24, 12, 0, 0, 0) 26 := zi_newI (by decide +kernel : decode zY_120.2.1 24 = .ok (.newarray .int, 2)) (zw_T zwd_16) rfl rfl (by decide) rfl
theorem zf_zm_120_13 (env : List (Nat × Nat)) : zI9 120 zY_120 zm_120 env (26, 4, 16, 4, 2) 29 := zi_putfF (i := 18) (N := 23) (C := "TransportPairModel$Greet") (ref := "TransportPairModel$Greet") (T := zF_16) (by decide +kernel : decode zY_120.2.1 26 = .ok (.putfield 18, 3)) rfl zuw_16 zFt_16 zFn_16 (by decide) (zw_T zwd_604) rfl rfl rfl rfl (ty := .array .int) (by decide +kernel) (Or.inr ⟨_, rfl⟩)
theorem zf_zm_120_14 (env : List (Nat × Nat)) : zI9 120 zY_120 zm_120 env (29, 0, 0, 0, 0) 30 := zi_aload_n (by decide +kernel : decode zY_120.2.1 29 = .ok (.aload_n 0, 1)) rfl
theorem zf_zm_120_15 (env : List (Nat × Nat)) : zI9 120 zY_120 zm_120 env (30, 2, 2048, 0, 0) 33 := zi_sipush (by decide +kernel : decode zY_120.2.1 30 = .ok (.sipush 2048, 3)) (by decide +kernel)
theorem zf_zm_120_16 (env : List (Nat × Nat)) : zI9 120 zY_120 zm_120 env (33, 12, 0, 0, 0) 35 := zi_newI (by decide +kernel : decode zY_120.2.1 33 = .ok (.newarray .int, 2)) (zw_T zwd_16) rfl rfl (by decide) rfl
theorem zf_zm_120_17 (env : List (Nat × Nat)) : zI9 120 zY_120 zm_120 env (35, 4, 16, 9, 2) 38 := zi_putfF (i := 21) (N := 23) (C := "TransportPairModel$Greet") (ref := "TransportPairModel$Greet") (T := zF_16) (by decide +kernel : decode zY_120.2.1 35 = .ok (.putfield 21, 3)) rfl zuw_16 zFt_16 zFn_16 (by decide) (zw_T zwd_605) rfl rfl rfl rfl (ty := .array .int) (by decide +kernel) (Or.inr ⟨_, rfl⟩)
theorem zf_zm_120_18 (env : List (Nat × Nat)) : zI9 120 zY_120 zm_120 env (38, 0, 0, 0, 0) 39 := zi_aload_n (by decide +kernel : decode zY_120.2.1 38 = .ok (.aload_n 0, 1)) rfl
theorem zf_zm_120_19 (env : List (Nat × Nat)) : zI9 120 zY_120 zm_120 env (39, 2, 2, 0, 0) 40 := zi_iconst (by decide +kernel : decode zY_120.2.1 39 = .ok (.iconst 2, 1)) (by decide +kernel)
theorem zf_zm_120_20 (env : List (Nat × Nat)) : zI9 120 zY_120 zm_120 env (40, 12, 0, 0, 0) 42 := zi_newI (by decide +kernel : decode zY_120.2.1 40 = .ok (.newarray .int, 2)) (zw_T zwd_16) rfl rfl (by decide) rfl
theorem zf_zm_120_21 (env : List (Nat × Nat)) : zI9 120 zY_120 zm_120 env (42, 4, 16, 10, 2) 45 := zi_putfF (i := 24) (N := 23) (C := "TransportPairModel$Greet") (ref := "TransportPairModel$Greet") (T := zF_16) (by decide +kernel : decode zY_120.2.1 42 = .ok (.putfield 24, 3)) rfl zuw_16 zFt_16 zFn_16 (by decide) (zw_T zwd_606) rfl rfl rfl rfl (ty := .array .int) (by decide +kernel) (Or.inr ⟨_, rfl⟩)
theorem zf_zm_120_22 (env : List (Nat × Nat)) : zI9 120 zY_120 zm_120 env (45, 0, 0, 0, 0) 46 := zi_aload_n (by decide +kernel : decode zY_120.2.1 45 = .ok (.aload_n 0, 1)) rfl
theorem zf_zm_120_23 (env : List (Nat × Nat)) : zI9 120 zY_120 zm_120 env (46, 2, 2048, 0, 0) 49 := zi_sipush (by decide +kernel : decode zY_120.2.1 46 = .ok (.sipush 2048, 3)) (by decide +kernel)
theorem zf_zm_120_24 (env : List (Nat × Nat)) : zI9 120 zY_120 zm_120 env (49, 12, 0, 0, 0) 51 := zi_newI (by decide +kernel : decode zY_120.2.1 49 = .ok (.newarray .int, 2)) (zw_T zwd_16) rfl rfl (by decide) rfl
theorem zf_zm_120_25 (env : List (Nat × Nat)) : zI9 120 zY_120 zm_120 env (51, 4, 16, 11, 2) 54 := zi_putfF (i := 27) (N := 23) (C := "TransportPairModel$Greet") (ref := "TransportPairModel$Greet") (T := zF_16) (by decide +kernel : decode zY_120.2.1 51 = .ok (.putfield 27, 3)) rfl zuw_16 zFt_16 zFn_16 (by decide) (zw_T zwd_607) rfl rfl rfl rfl (ty := .array .int) (by decide +kernel) (Or.inr ⟨_, rfl⟩)
theorem zf_zm_120_26 (env : List (Nat × Nat)) : zI9 120 zY_120 zm_120 env (54, 0, 0, 0, 0) 55 := zi_aload_n (by decide +kernel : decode zY_120.2.1 54 = .ok (.aload_n 0, 1)) rfl
theorem zf_zm_120_27 (env : List (Nat × Nat)) : zI9 120 zY_120 zm_120 env (55, 2, 2, 0, 0) 56 := zi_iconst (by decide +kernel : decode zY_120.2.1 55 = .ok (.iconst 2, 1)) (by decide +kernel)
theorem zf_zm_120_28 (env : List (Nat × Nat)) : zI9 120 zY_120 zm_120 env (56, 12, 0, 0, 0) 58 := zi_newI (by decide +kernel : decode zY_120.2.1 56 = .ok (.newarray .int, 2)) (zw_T zwd_16) rfl rfl (by decide) rfl
theorem zf_zm_120_29 (env : List (Nat × Nat)) : zI9 120 zY_120 zm_120 env (58, 4, 16, 12, 2) 61 := zi_putfF (i := 30) (N := 23) (C := "TransportPairModel$Greet") (ref := "TransportPairModel$Greet") (T := zF_16) (by decide +kernel : decode zY_120.2.1 58 = .ok (.putfield 30, 3)) rfl zuw_16 zFt_16 zFn_16 (by decide) (zw_T zwd_608) rfl rfl rfl rfl (ty := .array .int) (by decide +kernel) (Or.inr ⟨_, rfl⟩)
theorem zf_zm_120_30 (env : List (Nat × Nat)) : zI9 120 zY_120 zm_120 env (61, 0, 0, 0, 0) 62 := zi_aload_n (by decide +kernel : decode zY_120.2.1 61 = .ok (.aload_n 0, 1)) rfl
theorem zf_zm_120_31 (env : List (Nat × Nat)) : zI9 120 zY_120 zm_120 env (62, 2, 300, 0, 0) 65 := zi_sipush (by decide +kernel : decode zY_120.2.1 62 = .ok (.sipush 300, 3)) (by decide +kernel)
theorem zf_zm_120_32 (env : List (Nat × Nat)) : zI9 120 zY_120 zm_120 env (65, 12, 0, 0, 0) 67 := zi_newI (by decide +kernel : decode zY_120.2.1 65 = .ok (.newarray .int, 2)) (zw_T zwd_16) rfl rfl (by decide) rfl
theorem zf_zm_120_33 (env : List (Nat × Nat)) : zI9 120 zY_120 zm_120 env (67, 4, 16, 13, 2) 70 := zi_putfF (i := 33) (N := 23) (C := "TransportPairModel$Greet") (ref := "TransportPairModel$Greet") (T := zF_16) (by decide +kernel : decode zY_120.2.1 67 = .ok (.putfield 33, 3)) rfl zuw_16 zFt_16 zFn_16 (by decide) (zw_T zwd_609) rfl rfl rfl rfl (ty := .array .int) (by decide +kernel) (Or.inr ⟨_, rfl⟩)
theorem zf_zm_120_34 (env : List (Nat × Nat)) : zI9 120 zY_120 zm_120 env (70, 0, 0, 0, 0) 71 := zi_aload_n (by decide +kernel : decode zY_120.2.1 70 = .ok (.aload_n 0, 1)) rfl
theorem zf_zm_120_35 (env : List (Nat × Nat)) : zI9 120 zY_120 zm_120 env (71, 2, 4294967295, 0, 0) 72 := zi_iconst (by decide +kernel : decode zY_120.2.1 71 = .ok (.iconst (-1), 1)) (by decide +kernel)
theorem zf_zm_120_36 (env : List (Nat × Nat)) : zI9 120 zY_120 zm_120 env (72, 4, 16, 14, 0) 75 := zi_putf (i := 36) (N := 23) (C := "TransportPairModel$Greet") (ref := "TransportPairModel$Greet") (T := zF_16) (by decide +kernel : decode zY_120.2.1 72 = .ok (.putfield 36, 3)) rfl zuw_16 zFt_16 zFn_16 (by decide) (zw_T zwd_610) rfl rfl (ty := .int) (by decide +kernel) (rfl)
theorem zf_zm_120_37 (env : List (Nat × Nat)) : zI9 120 zY_120 zm_120 env (75, 0, 0, 0, 0) 76 := zi_aload_n (by decide +kernel : decode zY_120.2.1 75 = .ok (.aload_n 0, 1)) rfl
theorem zf_zm_120_38 (env : List (Nat × Nat)) : zI9 120 zY_120 zm_120 env (76, 2, 1024, 0, 0) 79 := zi_sipush (by decide +kernel : decode zY_120.2.1 76 = .ok (.sipush 1024, 3)) (by decide +kernel)
theorem zf_zm_120_39 (env : List (Nat × Nat)) : zI9 120 zY_120 zm_120 env (79, 12, 0, 0, 0) 81 := zi_newI (by decide +kernel : decode zY_120.2.1 79 = .ok (.newarray .int, 2)) (zw_T zwd_16) rfl rfl (by decide) rfl
theorem zf_zm_120_40 (env : List (Nat × Nat)) : zI9 120 zY_120 zm_120 env (81, 4, 16, 15, 2) 84 := zi_putfF (i := 40) (N := 23) (C := "TransportPairModel$Greet") (ref := "TransportPairModel$Greet") (T := zF_16) (by decide +kernel : decode zY_120.2.1 81 = .ok (.putfield 40, 3)) rfl zuw_16 zFt_16 zFn_16 (by decide) (zw_T zwd_611) rfl rfl rfl rfl (ty := .array .int) (by decide +kernel) (Or.inr ⟨_, rfl⟩)
theorem zf_zm_120_41 (env : List (Nat × Nat)) : zI9 120 zY_120 zm_120 env (84, 0, 0, 0, 0) 85 := zi_aload_n (by decide +kernel : decode zY_120.2.1 84 = .ok (.aload_n 0, 1)) rfl
theorem zf_zm_120_42 (env : List (Nat × Nat)) : zI9 120 zY_120 zm_120 env (85, 2, 192, 0, 0) 88 := zi_sipush (by decide +kernel : decode zY_120.2.1 85 = .ok (.sipush 192, 3)) (by decide +kernel)
theorem zf_zm_120_43 (env : List (Nat × Nat)) : zI9 120 zY_120 zm_120 env (88, 12, 0, 0, 0) 90 := zi_newI (by decide +kernel : decode zY_120.2.1 88 = .ok (.newarray .int, 2)) (zw_T zwd_16) rfl rfl (by decide) rfl
theorem zf_zm_120_44 (env : List (Nat × Nat)) : zI9 120 zY_120 zm_120 env (90, 4, 16, 17, 2) 93 := zi_putfF (i := 43) (N := 23) (C := "TransportPairModel$Greet") (ref := "TransportPairModel$Greet") (T := zF_16) (by decide +kernel : decode zY_120.2.1 90 = .ok (.putfield 43, 3)) rfl zuw_16 zFt_16 zFn_16 (by decide) (zw_T zwd_612) rfl rfl rfl rfl (ty := .array .int) (by decide +kernel) (Or.inr ⟨_, rfl⟩)
theorem zf_zm_120_45 (env : List (Nat × Nat)) : zI9 120 zY_120 zm_120 env (93, 0, 0, 0, 0) 94 := zi_aload_n (by decide +kernel : decode zY_120.2.1 93 = .ok (.aload_n 0, 1)) rfl
theorem zf_zm_120_46 (env : List (Nat × Nat)) : zI9 120 zY_120 zm_120 env (94, 2, 4294967295, 0, 0) 95 := zi_iconst (by decide +kernel : decode zY_120.2.1 94 = .ok (.iconst (-1), 1)) (by decide +kernel)
theorem zf_zm_120_47 (env : List (Nat × Nat)) : zI9 120 zY_120 zm_120 env (95, 4, 16, 18, 0) 98 := zi_putf (i := 46) (N := 23) (C := "TransportPairModel$Greet") (ref := "TransportPairModel$Greet") (T := zF_16) (by decide +kernel : decode zY_120.2.1 95 = .ok (.putfield 46, 3)) rfl zuw_16 zFt_16 zFn_16 (by decide) (zw_T zwd_613) rfl rfl (ty := .int) (by decide +kernel) (rfl)
theorem zf_zm_120_48 (env : List (Nat × Nat)) : zI9 120 zY_120 zm_120 env (98, 0, 0, 0, 0) 99 := zi_aload_n (by decide +kernel : decode zY_120.2.1 98 = .ok (.aload_n 0, 1)) rfl
theorem zf_zm_120_49 (env : List (Nat × Nat)) : zI9 120 zY_120 zm_120 env (99, 2, 32, 0, 0) 101 := zi_bipush (by decide +kernel : decode zY_120.2.1 99 = .ok (.bipush 32, 2)) (by decide +kernel)
theorem zf_zm_120_50 (env : List (Nat × Nat)) : zI9 120 zY_120 zm_120 env (101, 12, 0, 0, 0) 103 := zi_newI (by decide +kernel : decode zY_120.2.1 101 = .ok (.newarray .int, 2)) (zw_T zwd_16) rfl rfl (by decide) rfl
theorem zf_zm_120_51 (env : List (Nat × Nat)) : zI9 120 zY_120 zm_120 env (103, 4, 16, 19, 2) 106 := zi_putfF (i := 49) (N := 23) (C := "TransportPairModel$Greet") (ref := "TransportPairModel$Greet") (T := zF_16) (by decide +kernel : decode zY_120.2.1 103 = .ok (.putfield 49, 3)) rfl zuw_16 zFt_16 zFn_16 (by decide) (zw_T zwd_614) rfl rfl rfl rfl (ty := .array .int) (by decide +kernel) (Or.inr ⟨_, rfl⟩)
theorem zf_zm_120_52 (env : List (Nat × Nat)) : zI9 120 zY_120 zm_120 env (106, 0, 0, 0, 0) 107 := zi_aload_n (by decide +kernel : decode zY_120.2.1 106 = .ok (.aload_n 0, 1)) rfl
theorem zf_zm_120_53 (env : List (Nat × Nat)) : zI9 120 zY_120 zm_120 env (107, 2, 32, 0, 0) 109 := zi_bipush (by decide +kernel : decode zY_120.2.1 107 = .ok (.bipush 32, 2)) (by decide +kernel)
theorem zf_zm_120_54 (env : List (Nat × Nat)) : zI9 120 zY_120 zm_120 env (109, 12, 0, 0, 0) 111 := zi_newI (by decide +kernel : decode zY_120.2.1 109 = .ok (.newarray .int, 2)) (zw_T zwd_16) rfl rfl (by decide) rfl
theorem zf_zm_120_55 (env : List (Nat × Nat)) : zI9 120 zY_120 zm_120 env (111, 4, 16, 20, 2) 114 := zi_putfF (i := 52) (N := 23) (C := "TransportPairModel$Greet") (ref := "TransportPairModel$Greet") (T := zF_16) (by decide +kernel : decode zY_120.2.1 111 = .ok (.putfield 52, 3)) rfl zuw_16 zFt_16 zFn_16 (by decide) (zw_T zwd_615) rfl rfl rfl rfl (ty := .array .int) (by decide +kernel) (Or.inr ⟨_, rfl⟩)
theorem zf_zm_120_56 (env : List (Nat × Nat)) : zI9 120 zY_120 zm_120 env (114, 0, 0, 0, 0) 115 := zi_aload_n (by decide +kernel : decode zY_120.2.1 114 = .ok (.aload_n 0, 1)) rfl
theorem zf_zm_120_57 (env : List (Nat × Nat)) : zI9 120 zY_120 zm_120 env (115, 2, 32, 0, 0) 117 := zi_bipush (by decide +kernel : decode zY_120.2.1 115 = .ok (.bipush 32, 2)) (by decide +kernel)
theorem zf_zm_120_58 (env : List (Nat × Nat)) : zI9 120 zY_120 zm_120 env (117, 12, 0, 0, 0) 119 := zi_newI (by decide +kernel : decode zY_120.2.1 117 = .ok (.newarray .int, 2)) (zw_T zwd_16) rfl rfl (by decide) rfl
theorem zf_zm_120_59 (env : List (Nat × Nat)) : zI9 120 zY_120 zm_120 env (119, 4, 16, 21, 2) 122 := zi_putfF (i := 55) (N := 23) (C := "TransportPairModel$Greet") (ref := "TransportPairModel$Greet") (T := zF_16) (by decide +kernel : decode zY_120.2.1 119 = .ok (.putfield 55, 3)) rfl zuw_16 zFt_16 zFn_16 (by decide) (zw_T zwd_616) rfl rfl rfl rfl (ty := .array .int) (by decide +kernel) (Or.inr ⟨_, rfl⟩)
theorem zf_zm_120_60 (env : List (Nat × Nat)) : zI9 120 zY_120 zm_120 env (122, 0, 0, 0, 0) 123 := zi_aload_n (by decide +kernel : decode zY_120.2.1 122 = .ok (.aload_n 0, 1)) rfl
theorem zf_zm_120_61 (env : List (Nat × Nat)) : zI9 120 zY_120 zm_120 env (123, 2, 32, 0, 0) 125 := zi_bipush (by decide +kernel : decode zY_120.2.1 123 = .ok (.bipush 32, 2)) (by decide +kernel)
theorem zf_zm_120_62 (env : List (Nat × Nat)) : zI9 120 zY_120 zm_120 env (125, 12, 0, 0, 0) 127 := zi_newI (by decide +kernel : decode zY_120.2.1 125 = .ok (.newarray .int, 2)) (zw_T zwd_16) rfl rfl (by decide) rfl
theorem zf_zm_120_63 (env : List (Nat × Nat)) : zI9 120 zY_120 zm_120 env (127, 4, 16, 22, 2) 130 := zi_putfF (i := 58) (N := 23) (C := "TransportPairModel$Greet") (ref := "TransportPairModel$Greet") (T := zF_16) (by decide +kernel : decode zY_120.2.1 127 = .ok (.putfield 58, 3)) rfl zuw_16 zFt_16 zFn_16 (by decide) (zw_T zwd_617) rfl rfl rfl rfl (ty := .array .int) (by decide +kernel) (Or.inr ⟨_, rfl⟩)
theorem zf_zm_120_64 (env : List (Nat × Nat)) : zI9 120 zY_120 zm_120 env (130, 0, 0, 0, 0) 131 := zi_aload_n (by decide +kernel : decode zY_120.2.1 130 = .ok (.aload_n 0, 1)) rfl
theorem zf_zm_120_65 (env : List (Nat × Nat)) : zI9 120 zY_120 zm_120 env (131, 63, 1, 0, 0) 132 := zi_iload_n (by decide +kernel : decode zY_120.2.1 131 = .ok (.iload_n 1, 1)) rfl
theorem zf_zm_120_66 (env : List (Nat × Nat)) : zI9 120 zY_120 zm_120 env (132, 4, 16, 0, 0) 135 := zi_putfF (i := 61) (N := 23) (C := "TransportPairModel$Greet") (ref := "TransportPairModel$Greet") (T := zF_16) (by decide +kernel : decode zY_120.2.1 132 = .ok (.putfield 61, 3)) rfl zuw_16 zFt_16 zFn_16 (by decide) (zw_T zwd_618) rfl rfl rfl rfl (ty := .int) (by decide +kernel) (rfl)
theorem zf_zm_120_67 (env : List (Nat × Nat)) : zI9 120 zY_120 zm_120 env (135, 0, 0, 0, 0) 136 := zi_aload_n (by decide +kernel : decode zY_120.2.1 135 = .ok (.aload_n 0, 1)) rfl
theorem zf_zm_120_68 (env : List (Nat × Nat)) : zI9 120 zY_120 zm_120 env (136, 0, 2, 0, 0) 137 := zi_aload_n (by decide +kernel : decode zY_120.2.1 136 = .ok (.aload_n 2, 1)) rfl
theorem zf_zm_120_69 (env : List (Nat × Nat)) : zI9 120 zY_120 zm_120 env (137, 4, 16, 1, 2) 140 := zi_putfF (i := 64) (N := 23) (C := "TransportPairModel$Greet") (ref := "TransportPairModel$Greet") (T := zF_16) (by decide +kernel : decode zY_120.2.1 137 = .ok (.putfield 64, 3)) rfl zuw_16 zFt_16 zFn_16 (by decide) (zw_T zwd_619) rfl rfl rfl rfl (ty := .object "TransportPairModel$Seals") (by decide +kernel) (Or.inl ⟨_, rfl⟩)
theorem zf_zm_120_70 (env : List (Nat × Nat)) : zR9 120 env (140, 21, 0, 0, 0) := zi_vret (by decide +kernel : decode (zYf 120).2.1 140 = .ok (.return_, 1)) rfl
set_option maxRecDepth 100000 in
theorem zc_zm_120 (env : List (Nat × Nat)) : zcode zX (z_QF zEX zcl zft) (z_zm zEX zX zWL zcl zft zYf) zYf zW zET zcl zft (zGv env) 120 zm_120 zm_120.1 := ⟨Or.inl ⟨1, zf_zm_120_0 env, zpc_c⟩,
  Or.inl ⟨4, zf_zm_120_1 env, zpc_c⟩,
  Or.inl ⟨5, zf_zm_120_2 env, zpc_c⟩,
  Or.inl ⟨7, zf_zm_120_3 env, zpc_c⟩,
  Or.inl ⟨9, zf_zm_120_4 env, zpc_c⟩,
  Or.inl ⟨12, zf_zm_120_5 env, zpc_c⟩,
  Or.inl ⟨13, zf_zm_120_6 env, zpc_c⟩,
  Or.inl ⟨15, zf_zm_120_7 env, zpc_c⟩,
  Or.inl ⟨17, zf_zm_120_8 env, zpc_c⟩,
  Or.inl ⟨20, zf_zm_120_9 env, zpc_c⟩,
  Or.inl ⟨21, zf_zm_120_10 env, zpc_c⟩,
  Or.inl ⟨24, zf_zm_120_11 env, zpc_c⟩,
  Or.inl ⟨26, zf_zm_120_12 env, zpc_c⟩,
  Or.inl ⟨29, zf_zm_120_13 env, zpc_c⟩,
  Or.inl ⟨30, zf_zm_120_14 env, zpc_c⟩,
  Or.inl ⟨33, zf_zm_120_15 env, zpc_c⟩,
  Or.inl ⟨35, zf_zm_120_16 env, zpc_c⟩,
  Or.inl ⟨38, zf_zm_120_17 env, zpc_c⟩,
  Or.inl ⟨39, zf_zm_120_18 env, zpc_c⟩,
  Or.inl ⟨40, zf_zm_120_19 env, zpc_c⟩,
  Or.inl ⟨42, zf_zm_120_20 env, zpc_c⟩,
  Or.inl ⟨45, zf_zm_120_21 env, zpc_c⟩,
  Or.inl ⟨46, zf_zm_120_22 env, zpc_c⟩,
  Or.inl ⟨49, zf_zm_120_23 env, zpc_c⟩,
  Or.inl ⟨51, zf_zm_120_24 env, zpc_c⟩,
  Or.inl ⟨54, zf_zm_120_25 env, zpc_c⟩,
  Or.inl ⟨55, zf_zm_120_26 env, zpc_c⟩,
  Or.inl ⟨56, zf_zm_120_27 env, zpc_c⟩,
  Or.inl ⟨58, zf_zm_120_28 env, zpc_c⟩,
  Or.inl ⟨61, zf_zm_120_29 env, zpc_c⟩,
  Or.inl ⟨62, zf_zm_120_30 env, zpc_c⟩,
  Or.inl ⟨65, zf_zm_120_31 env, zpc_c⟩,
  Or.inl ⟨67, zf_zm_120_32 env, zpc_c⟩,
  Or.inl ⟨70, zf_zm_120_33 env, zpc_c⟩,
  Or.inl ⟨71, zf_zm_120_34 env, zpc_c⟩,
  Or.inl ⟨72, zf_zm_120_35 env, zpc_c⟩,
  Or.inl ⟨75, zf_zm_120_36 env, zpc_c⟩,
  Or.inl ⟨76, zf_zm_120_37 env, zpc_c⟩,
  Or.inl ⟨79, zf_zm_120_38 env, zpc_c⟩,
  Or.inl ⟨81, zf_zm_120_39 env, zpc_c⟩,
  Or.inl ⟨84, zf_zm_120_40 env, zpc_c⟩,
  Or.inl ⟨85, zf_zm_120_41 env, zpc_c⟩,
  Or.inl ⟨88, zf_zm_120_42 env, zpc_c⟩,
  Or.inl ⟨90, zf_zm_120_43 env, zpc_c⟩,
  Or.inl ⟨93, zf_zm_120_44 env, zpc_c⟩,
  Or.inl ⟨94, zf_zm_120_45 env, zpc_c⟩,
  Or.inl ⟨95, zf_zm_120_46 env, zpc_c⟩,
  Or.inl ⟨98, zf_zm_120_47 env, zpc_c⟩,
  Or.inl ⟨99, zf_zm_120_48 env, zpc_c⟩,
  Or.inl ⟨101, zf_zm_120_49 env, zpc_c⟩,
  Or.inl ⟨103, zf_zm_120_50 env, zpc_c⟩,
  Or.inl ⟨106, zf_zm_120_51 env, zpc_c⟩,
  Or.inl ⟨107, zf_zm_120_52 env, zpc_c⟩,
  Or.inl ⟨109, zf_zm_120_53 env, zpc_c⟩,
  Or.inl ⟨111, zf_zm_120_54 env, zpc_c⟩,
  Or.inl ⟨114, zf_zm_120_55 env, zpc_c⟩,
  Or.inl ⟨115, zf_zm_120_56 env, zpc_c⟩,
  Or.inl ⟨117, zf_zm_120_57 env, zpc_c⟩,
  Or.inl ⟨119, zf_zm_120_58 env, zpc_c⟩,
  Or.inl ⟨122, zf_zm_120_59 env, zpc_c⟩,
  Or.inl ⟨123, zf_zm_120_60 env, zpc_c⟩,
  Or.inl ⟨125, zf_zm_120_61 env, zpc_c⟩,
  Or.inl ⟨127, zf_zm_120_62 env, zpc_c⟩,
  Or.inl ⟨130, zf_zm_120_63 env, zpc_c⟩,
  Or.inl ⟨131, zf_zm_120_64 env, zpc_c⟩,
  Or.inl ⟨132, zf_zm_120_65 env, zpc_c⟩,
  Or.inl ⟨135, zf_zm_120_66 env, zpc_c⟩,
  Or.inl ⟨136, zf_zm_120_67 env, zpc_c⟩,
  Or.inl ⟨137, zf_zm_120_68 env, zpc_c⟩,
  Or.inl ⟨140, zf_zm_120_69 env, zpc_c⟩,
  Or.inr (Or.inl (zf_zm_120_70 env)), trivial⟩
theorem zf_zm_121_0 (env : List (Nat × Nat)) : zI9 121 zY_121 zm_121 env (0, 0, 0, 0, 0) 1 := zi_aload_n (by decide +kernel : decode zY_121.2.1 0 = .ok (.aload_n 0, 1)) rfl
theorem zf_zm_121_1 (env : List (Nat × Nat)) : zI9 121 zY_121 zm_121 env (1, 60, 0, 0, 0) 4 := zi_obj (i := 3) (by decide +kernel : decode zY_121.2.1 1 = .ok (.invokespecial 3, 3)) (zw_T zwd_620) (zw_T zwd_11) (zw_T zwd_12)
theorem zf_zm_121_2 (env : List (Nat × Nat)) : zI9 121 zY_121 zm_121 env (4, 0, 0, 0, 0) 5 := zi_aload_n (by decide +kernel : decode zY_121.2.1 4 = .ok (.aload_n 0, 1)) rfl
theorem zf_zm_121_3 (env : List (Nat × Nat)) : zI9 121 zY_121 zm_121 env (5, 17, 13, 0, 38) 8 := zi_new (i := 9) (N := 38) (C := "TransportPairModel$Book") (T := zF_13) (ds := [0, 0, 0, 2, 2, 2, 2, 2, 2, 2, 2, 2, 2, 2, 0, 2, 2, 2, 0, 0, 0, 0, 0, 0, 0, 0, 0, 0, 2, 2, 2, 2, 2, 2, 2, 2, 2, 2]) (by decide +kernel : decode zY_121.2.1 5 = .ok (.new 9, 3)) rfl zuw_13 zFt_13 (zw_T zwd_621) (zw_T zwd_622) (zw_T zwd_307) rfl rfl rfl zFd_13
theorem zf_zm_121_4 (env : List (Nat × Nat)) : zI9 121 zY_121 zm_121 env (8, 13, 0, 0, 0) 9 := zi_dup (by decide +kernel : decode zY_121.2.1 8 = .ok (.dup, 1))
theorem zf_zm_121_5 (env : List (Nat × Nat)) : zC9 121 zm_121 env (9, 66, 107, 66, 1) := zi_call (by decide +kernel) (zr_I (i := 11) (n := 0) zX_ok rfl (zgood_107) (by decide +kernel) (zw_T zwd_307) (zw_T zwd_623) rfl (zw_T zwd_624) rfl ⟨by decide +kernel, by decide +kernel, by decide +kernel⟩ rfl (by decide +kernel : decode (zYf 121).2.1 9 = .ok (.invokespecial 11, 3)))
theorem zf_zm_121_6 (env : List (Nat × Nat)) : zI9 121 zY_121 zm_121 env (12, 4, 18, 4, 2) 15 := zi_putfF (i := 12) (N := 53) (C := "TransportPairModel$Side") (ref := "TransportPairModel$Side") (T := zF_18) (by decide +kernel : decode zY_121.2.1 12 = .ok (.putfield 12, 3)) rfl zuw_18 zFt_18 zFn_18 (by decide) (zw_T zwd_625) rfl rfl rfl rfl (ty := .object "TransportPairModel$Book") (by decide +kernel) (Or.inl ⟨_, rfl⟩)
theorem zf_zm_121_7 (env : List (Nat × Nat)) : zI9 121 zY_121 zm_121 env (15, 0, 0, 0, 0) 16 := zi_aload_n (by decide +kernel : decode zY_121.2.1 15 = .ok (.aload_n 0, 1)) rfl
theorem zf_zm_121_8 (env : List (Nat × Nat)) : zI9 121 zY_121 zm_121 env (16, 2, 10, 0, 0) 18 := zi_bipush (by decide +kernel : decode zY_121.2.1 16 = .ok (.bipush 10, 2)) (by decide +kernel)
theorem zf_zm_121_9 (env : List (Nat × Nat)) : zI9 121 zY_121 zm_121 env (18, 12, 1, 3, 0) 20 := zi_newL (by decide +kernel : decode zY_121.2.1 18 = .ok (.newarray .long, 2)) (zw_T zwd_13) rfl rfl
theorem zf_zm_121_10 (env : List (Nat × Nat)) : zI9 121 zY_121 zm_121 env (20, 4, 18, 5, 2) 23 := zi_putfF (i := 18) (N := 53) (C := "TransportPairModel$Side") (ref := "TransportPairModel$Side") (T := zF_18) (by decide +kernel : decode zY_121.2.1 20 = .ok (.putfield 18, 3)) rfl zuw_18 zFt_18 zFn_18 (by decide) (zw_T zwd_626) rfl rfl rfl rfl (ty := .array .long) (by decide +kernel) (Or.inr ⟨_, rfl⟩)
theorem zf_zm_121_11 (env : List (Nat × Nat)) : zI9 121 zY_121 zm_121 env (23, 0, 0, 0, 0) 24 := zi_aload_n (by decide +kernel : decode zY_121.2.1 23 = .ok (.aload_n 0, 1)) rfl
theorem zf_zm_121_12 (env : List (Nat × Nat)) : zI9 121 zY_121 zm_121 env (24, 2, 20, 0, 0) 26 := zi_bipush (by decide +kernel : decode zY_121.2.1 24 = .ok (.bipush 20, 2)) (by decide +kernel)
theorem zf_zm_121_13 (env : List (Nat × Nat)) : zI9 121 zY_121 zm_121 env (26, 12, 0, 0, 0) 28 := zi_newI (by decide +kernel : decode zY_121.2.1 26 = .ok (.newarray .int, 2)) (zw_T zwd_16) rfl rfl (by decide) rfl
theorem zf_zm_121_14 (env : List (Nat × Nat)) : zI9 121 zY_121 zm_121 env (28, 4, 18, 13, 2) 31 := zi_putfF (i := 22) (N := 53) (C := "TransportPairModel$Side") (ref := "TransportPairModel$Side") (T := zF_18) (by decide +kernel : decode zY_121.2.1 28 = .ok (.putfield 22, 3)) rfl zuw_18 zFt_18 zFn_18 (by decide) (zw_T zwd_627) rfl rfl rfl rfl (ty := .array .int) (by decide +kernel) (Or.inr ⟨_, rfl⟩)
theorem zf_zm_121_15 (env : List (Nat × Nat)) : zI9 121 zY_121 zm_121 env (31, 0, 0, 0, 0) 32 := zi_aload_n (by decide +kernel : decode zY_121.2.1 31 = .ok (.aload_n 0, 1)) rfl
theorem zf_zm_121_16 (env : List (Nat × Nat)) : zI9 121 zY_121 zm_121 env (32, 2, 8, 0, 0) 34 := zi_bipush (by decide +kernel : decode zY_121.2.1 32 = .ok (.bipush 8, 2)) (by decide +kernel)
theorem zf_zm_121_17 (env : List (Nat × Nat)) : zI9 121 zY_121 zm_121 env (34, 12, 0, 0, 0) 36 := zi_newI (by decide +kernel : decode zY_121.2.1 34 = .ok (.newarray .int, 2)) (zw_T zwd_16) rfl rfl (by decide) rfl
theorem zf_zm_121_18 (env : List (Nat × Nat)) : zI9 121 zY_121 zm_121 env (36, 4, 18, 16, 2) 39 := zi_putfF (i := 26) (N := 53) (C := "TransportPairModel$Side") (ref := "TransportPairModel$Side") (T := zF_18) (by decide +kernel : decode zY_121.2.1 36 = .ok (.putfield 26, 3)) rfl zuw_18 zFt_18 zFn_18 (by decide) (zw_T zwd_628) rfl rfl rfl rfl (ty := .array .int) (by decide +kernel) (Or.inr ⟨_, rfl⟩)
theorem zf_zm_121_19 (env : List (Nat × Nat)) : zI9 121 zY_121 zm_121 env (39, 0, 0, 0, 0) 40 := zi_aload_n (by decide +kernel : decode zY_121.2.1 39 = .ok (.aload_n 0, 1)) rfl
theorem zf_zm_121_20 (env : List (Nat × Nat)) : zI9 121 zY_121 zm_121 env (40, 2, 576, 0, 0) 43 := zi_sipush (by decide +kernel : decode zY_121.2.1 40 = .ok (.sipush 576, 3)) (by decide +kernel)
theorem zf_zm_121_21 (env : List (Nat × Nat)) : zI9 121 zY_121 zm_121 env (43, 12, 0, 0, 0) 45 := zi_newI (by decide +kernel : decode zY_121.2.1 43 = .ok (.newarray .int, 2)) (zw_T zwd_16) rfl rfl (by decide) rfl
theorem zf_zm_121_22 (env : List (Nat × Nat)) : zI9 121 zY_121 zm_121 env (45, 4, 18, 18, 2) 48 := zi_putfF (i := 29) (N := 53) (C := "TransportPairModel$Side") (ref := "TransportPairModel$Side") (T := zF_18) (by decide +kernel : decode zY_121.2.1 45 = .ok (.putfield 29, 3)) rfl zuw_18 zFt_18 zFn_18 (by decide) (zw_T zwd_629) rfl rfl rfl rfl (ty := .array .int) (by decide +kernel) (Or.inr ⟨_, rfl⟩)
theorem zf_zm_121_23 (env : List (Nat × Nat)) : zI9 121 zY_121 zm_121 env (48, 0, 0, 0, 0) 49 := zi_aload_n (by decide +kernel : decode zY_121.2.1 48 = .ok (.aload_n 0, 1)) rfl
theorem zf_zm_121_24 (env : List (Nat × Nat)) : zI9 121 zY_121 zm_121 env (49, 2, 3, 0, 0) 50 := zi_iconst (by decide +kernel : decode zY_121.2.1 49 = .ok (.iconst 3, 1)) (by decide +kernel)
theorem zf_zm_121_25 (env : List (Nat × Nat)) : zI9 121 zY_121 zm_121 env (50, 12, 0, 2, 0) 52 := zi_newI (by decide +kernel : decode zY_121.2.1 50 = .ok (.newarray .boolean, 2)) (zw_T zwd_43) rfl rfl (by decide) rfl
theorem zf_zm_121_26 (env : List (Nat × Nat)) : zI9 121 zY_121 zm_121 env (52, 4, 18, 19, 2) 55 := zi_putfF (i := 32) (N := 53) (C := "TransportPairModel$Side") (ref := "TransportPairModel$Side") (T := zF_18) (by decide +kernel : decode zY_121.2.1 52 = .ok (.putfield 32, 3)) rfl zuw_18 zFt_18 zFn_18 (by decide) (zw_T zwd_630) rfl rfl rfl rfl (ty := .array .boolean) (by decide +kernel) (Or.inr ⟨_, rfl⟩)
theorem zf_zm_121_27 (env : List (Nat × Nat)) : zI9 121 zY_121 zm_121 env (55, 0, 0, 0, 0) 56 := zi_aload_n (by decide +kernel : decode zY_121.2.1 55 = .ok (.aload_n 0, 1)) rfl
theorem zf_zm_121_28 (env : List (Nat × Nat)) : zI9 121 zY_121 zm_121 env (56, 2, 64, 0, 0) 58 := zi_bipush (by decide +kernel : decode zY_121.2.1 56 = .ok (.bipush 64, 2)) (by decide +kernel)
theorem zf_zm_121_29 (env : List (Nat × Nat)) : zI9 121 zY_121 zm_121 env (58, 12, 0, 0, 0) 60 := zi_newI (by decide +kernel : decode zY_121.2.1 58 = .ok (.newarray .int, 2)) (zw_T zwd_16) rfl rfl (by decide) rfl
theorem zf_zm_121_30 (env : List (Nat × Nat)) : zI9 121 zY_121 zm_121 env (60, 4, 18, 20, 2) 63 := zi_putfF (i := 36) (N := 53) (C := "TransportPairModel$Side") (ref := "TransportPairModel$Side") (T := zF_18) (by decide +kernel : decode zY_121.2.1 60 = .ok (.putfield 36, 3)) rfl zuw_18 zFt_18 zFn_18 (by decide) (zw_T zwd_631) rfl rfl rfl rfl (ty := .array .int) (by decide +kernel) (Or.inr ⟨_, rfl⟩)
theorem zf_zm_121_31 (env : List (Nat × Nat)) : zI9 121 zY_121 zm_121 env (63, 0, 0, 0, 0) 64 := zi_aload_n (by decide +kernel : decode zY_121.2.1 63 = .ok (.aload_n 0, 1)) rfl
theorem zf_zm_121_32 (env : List (Nat × Nat)) : zI9 121 zY_121 zm_121 env (64, 17, 20, 0, 10) 67 := zi_new (i := 39) (N := 10) (C := "TransportPairModel$Wire") (T := zF_20) (ds := [2, 0, 0, 0, 0, 2, 0, 0, 0, 0]) (by decide +kernel : decode zY_121.2.1 64 = .ok (.new 39, 3)) rfl zuw_20 zFt_20 (zw_T zwd_632) (zw_T zwd_245) (zw_T zwd_246) rfl rfl rfl zFd_20
theorem zf_zm_121_33 (env : List (Nat × Nat)) : zI9 121 zY_121 zm_121 env (67, 13, 0, 0, 0) 68 := zi_dup (by decide +kernel : decode zY_121.2.1 67 = .ok (.dup, 1))
theorem zf_zm_121_34 (env : List (Nat × Nat)) : zC9 121 zm_121 env (68, 66, 141, 65, 1) := zi_call (by decide +kernel) (zr_IN (i := 41) (n := 0) zX_ok rfl (zgood_141) (by decide +kernel) (zw_T zwd_246) (zw_N zwd_633) rfl (zw_T zwd_248) rfl ⟨by decide +kernel, by decide +kernel, by decide +kernel⟩ rfl (by decide +kernel : decode (zYf 121).2.1 68 = .ok (.invokespecial 41, 3)))
theorem zf_zm_121_35 (env : List (Nat × Nat)) : zI9 121 zY_121 zm_121 env (71, 4, 18, 21, 2) 74 := zi_putfF (i := 42) (N := 53) (C := "TransportPairModel$Side") (ref := "TransportPairModel$Side") (T := zF_18) (by decide +kernel : decode zY_121.2.1 71 = .ok (.putfield 42, 3)) rfl zuw_18 zFt_18 zFn_18 (by decide) (zw_T zwd_634) rfl rfl rfl rfl (ty := .object "TransportPairModel$Wire") (by decide +kernel) (Or.inl ⟨_, rfl⟩)
theorem zf_zm_121_36 (env : List (Nat × Nat)) : zI9 121 zY_121 zm_121 env (74, 0, 0, 0, 0) 75 := zi_aload_n (by decide +kernel : decode zY_121.2.1 74 = .ok (.aload_n 0, 1)) rfl
theorem zf_zm_121_37 (env : List (Nat × Nat)) : zI9 121 zY_121 zm_121 env (75, 2, 17, 0, 0) 77 := zi_bipush (by decide +kernel : decode zY_121.2.1 75 = .ok (.bipush 17, 2)) (by decide +kernel)
theorem zf_zm_121_38 (env : List (Nat × Nat)) : zI9 121 zY_121 zm_121 env (77, 12, 1, 3, 0) 79 := zi_newL (by decide +kernel : decode zY_121.2.1 77 = .ok (.newarray .long, 2)) (zw_T zwd_13) rfl rfl
theorem zf_zm_121_39 (env : List (Nat × Nat)) : zI9 121 zY_121 zm_121 env (79, 4, 18, 22, 2) 82 := zi_putfF (i := 46) (N := 53) (C := "TransportPairModel$Side") (ref := "TransportPairModel$Side") (T := zF_18) (by decide +kernel : decode zY_121.2.1 79 = .ok (.putfield 46, 3)) rfl zuw_18 zFt_18 zFn_18 (by decide) (zw_T zwd_635) rfl rfl rfl rfl (ty := .array .long) (by decide +kernel) (Or.inr ⟨_, rfl⟩)
theorem zf_zm_121_40 (env : List (Nat × Nat)) : zI9 121 zY_121 zm_121 env (82, 0, 0, 0, 0) 83 := zi_aload_n (by decide +kernel : decode zY_121.2.1 82 = .ok (.aload_n 0, 1)) rfl
theorem zf_zm_121_41 (env : List (Nat × Nat)) : zI9 121 zY_121 zm_121 env (83, 2, 2, 0, 0) 84 := zi_iconst (by decide +kernel : decode zY_121.2.1 83 = .ok (.iconst 2, 1)) (by decide +kernel)
theorem zf_zm_121_42 (env : List (Nat × Nat)) : zI9 121 zY_121 zm_121 env (84, 12, 0, 0, 0) 86 := zi_newI (by decide +kernel : decode zY_121.2.1 84 = .ok (.newarray .int, 2)) (zw_T zwd_16) rfl rfl (by decide) rfl
theorem zf_zm_121_43 (env : List (Nat × Nat)) : zI9 121 zY_121 zm_121 env (86, 4, 18, 23, 2) 89 := zi_putfF (i := 49) (N := 53) (C := "TransportPairModel$Side") (ref := "TransportPairModel$Side") (T := zF_18) (by decide +kernel : decode zY_121.2.1 86 = .ok (.putfield 49, 3)) rfl zuw_18 zFt_18 zFn_18 (by decide) (zw_T zwd_636) rfl rfl rfl rfl (ty := .array .int) (by decide +kernel) (Or.inr ⟨_, rfl⟩)
theorem zf_zm_121_44 (env : List (Nat × Nat)) : zI9 121 zY_121 zm_121 env (89, 0, 0, 0, 0) 90 := zi_aload_n (by decide +kernel : decode zY_121.2.1 89 = .ok (.aload_n 0, 1)) rfl
theorem zf_zm_121_45 (env : List (Nat × Nat)) : zI9 121 zY_121 zm_121 env (90, 2, 4096, 0, 0) 93 := zi_sipush (by decide +kernel : decode zY_121.2.1 90 = .ok (.sipush 4096, 3)) (by decide +kernel)
theorem zf_zm_121_46 (env : List (Nat × Nat)) : zI9 121 zY_121 zm_121 env (93, 12, 0, 0, 0) 95 := zi_newI (by decide +kernel : decode zY_121.2.1 93 = .ok (.newarray .int, 2)) (zw_T zwd_16) rfl rfl (by decide) rfl
theorem zf_zm_121_47 (env : List (Nat × Nat)) : zI9 121 zY_121 zm_121 env (95, 4, 18, 25, 2) 98 := zi_putfF (i := 52) (N := 53) (C := "TransportPairModel$Side") (ref := "TransportPairModel$Side") (T := zF_18) (by decide +kernel : decode zY_121.2.1 95 = .ok (.putfield 52, 3)) rfl zuw_18 zFt_18 zFn_18 (by decide) (zw_T zwd_637) rfl rfl rfl rfl (ty := .array .int) (by decide +kernel) (Or.inr ⟨_, rfl⟩)
theorem zf_zm_121_48 (env : List (Nat × Nat)) : zI9 121 zY_121 zm_121 env (98, 0, 0, 0, 0) 99 := zi_aload_n (by decide +kernel : decode zY_121.2.1 98 = .ok (.aload_n 0, 1)) rfl
theorem zf_zm_121_49 (env : List (Nat × Nat)) : zI9 121 zY_121 zm_121 env (99, 2, 4096, 0, 0) 102 := zi_sipush (by decide +kernel : decode zY_121.2.1 99 = .ok (.sipush 4096, 3)) (by decide +kernel)
theorem zf_zm_121_50 (env : List (Nat × Nat)) : zI9 121 zY_121 zm_121 env (102, 12, 0, 2, 0) 104 := zi_newI (by decide +kernel : decode zY_121.2.1 102 = .ok (.newarray .boolean, 2)) (zw_T zwd_43) rfl rfl (by decide) rfl
theorem zf_zm_121_51 (env : List (Nat × Nat)) : zI9 121 zY_121 zm_121 env (104, 4, 18, 26, 2) 107 := zi_putfF (i := 55) (N := 53) (C := "TransportPairModel$Side") (ref := "TransportPairModel$Side") (T := zF_18) (by decide +kernel : decode zY_121.2.1 104 = .ok (.putfield 55, 3)) rfl zuw_18 zFt_18 zFn_18 (by decide) (zw_T zwd_638) rfl rfl rfl rfl (ty := .array .boolean) (by decide +kernel) (Or.inr ⟨_, rfl⟩)
theorem zf_zm_121_52 (env : List (Nat × Nat)) : zI9 121 zY_121 zm_121 env (107, 0, 0, 0, 0) 108 := zi_aload_n (by decide +kernel : decode zY_121.2.1 107 = .ok (.aload_n 0, 1)) rfl
theorem zf_zm_121_53 (env : List (Nat × Nat)) : zI9 121 zY_121 zm_121 env (108, 2, 2, 0, 0) 109 := zi_iconst (by decide +kernel : decode zY_121.2.1 108 = .ok (.iconst 2, 1)) (by decide +kernel)
theorem zf_zm_121_54 (env : List (Nat × Nat)) : zI9 121 zY_121 zm_121 env (109, 12, 0, 0, 0) 111 := zi_newI (by decide +kernel : decode zY_121.2.1 109 = .ok (.newarray .int, 2)) (zw_T zwd_16) rfl rfl (by decide) rfl
theorem zf_zm_121_55 (env : List (Nat × Nat)) : zI9 121 zY_121 zm_121 env (111, 4, 18, 27, 2) 114 := zi_putfF (i := 58) (N := 53) (C := "TransportPairModel$Side") (ref := "TransportPairModel$Side") (T := zF_18) (by decide +kernel : decode zY_121.2.1 111 = .ok (.putfield 58, 3)) rfl zuw_18 zFt_18 zFn_18 (by decide) (zw_T zwd_639) rfl rfl rfl rfl (ty := .array .int) (by decide +kernel) (Or.inr ⟨_, rfl⟩)
theorem zf_zm_121_56 (env : List (Nat × Nat)) : zI9 121 zY_121 zm_121 env (114, 0, 0, 0, 0) 115 := zi_aload_n (by decide +kernel : decode zY_121.2.1 114 = .ok (.aload_n 0, 1)) rfl
theorem zf_zm_121_57 (env : List (Nat × Nat)) : zI9 121 zY_121 zm_121 env (115, 2, 2048, 0, 0) 118 := zi_sipush (by decide +kernel : decode zY_121.2.1 115 = .ok (.sipush 2048, 3)) (by decide +kernel)
theorem zf_zm_121_58 (env : List (Nat × Nat)) : zI9 121 zY_121 zm_121 env (118, 12, 0, 1, 0) 120 := zi_newI (by decide +kernel : decode zY_121.2.1 118 = .ok (.newarray .byte, 2)) (zw_T zwd_79) rfl rfl (by decide) rfl
theorem zf_zm_121_59 (env : List (Nat × Nat)) : zI9 121 zY_121 zm_121 env (120, 4, 18, 28, 2) 123 := zi_putfF (i := 61) (N := 53) (C := "TransportPairModel$Side") (ref := "TransportPairModel$Side") (T := zF_18) (by decide +kernel : decode zY_121.2.1 120 = .ok (.putfield 61, 3)) rfl zuw_18 zFt_18 zFn_18 (by decide) (zw_T zwd_640) rfl rfl rfl rfl (ty := .array .byte) (by decide +kernel) (Or.inr ⟨_, rfl⟩)
theorem zf_zm_121_60 (env : List (Nat × Nat)) : zI9 121 zY_121 zm_121 env (123, 0, 0, 0, 0) 124 := zi_aload_n (by decide +kernel : decode zY_121.2.1 123 = .ok (.aload_n 0, 1)) rfl
theorem zf_zm_121_61 (env : List (Nat × Nat)) : zI9 121 zY_121 zm_121 env (124, 2, 2, 0, 0) 125 := zi_iconst (by decide +kernel : decode zY_121.2.1 124 = .ok (.iconst 2, 1)) (by decide +kernel)
theorem zf_zm_121_62 (env : List (Nat × Nat)) : zI9 121 zY_121 zm_121 env (125, 12, 0, 0, 0) 127 := zi_newI (by decide +kernel : decode zY_121.2.1 125 = .ok (.newarray .int, 2)) (zw_T zwd_16) rfl rfl (by decide) rfl
theorem zf_zm_121_63 (env : List (Nat × Nat)) : zI9 121 zY_121 zm_121 env (127, 4, 18, 29, 2) 130 := zi_putfF (i := 65) (N := 53) (C := "TransportPairModel$Side") (ref := "TransportPairModel$Side") (T := zF_18) (by decide +kernel : decode zY_121.2.1 127 = .ok (.putfield 65, 3)) rfl zuw_18 zFt_18 zFn_18 (by decide) (zw_T zwd_641) rfl rfl rfl rfl (ty := .array .int) (by decide +kernel) (Or.inr ⟨_, rfl⟩)
theorem zf_zm_121_64 (env : List (Nat × Nat)) : zI9 121 zY_121 zm_121 env (130, 0, 0, 0, 0) 131 := zi_aload_n (by decide +kernel : decode zY_121.2.1 130 = .ok (.aload_n 0, 1)) rfl
theorem zf_zm_121_65 (env : List (Nat × Nat)) : zI9 121 zY_121 zm_121 env (131, 2, 3, 0, 0) 132 := zi_iconst (by decide +kernel : decode zY_121.2.1 131 = .ok (.iconst 3, 1)) (by decide +kernel)
theorem zf_zm_121_66 (env : List (Nat × Nat)) : zI9 121 zY_121 zm_121 env (132, 12, 0, 0, 0) 134 := zi_newI (by decide +kernel : decode zY_121.2.1 132 = .ok (.newarray .int, 2)) (zw_T zwd_16) rfl rfl (by decide) rfl
theorem zf_zm_121_67 (env : List (Nat × Nat)) : zI9 121 zY_121 zm_121 env (134, 4, 18, 34, 2) 137 := zi_putfF (i := 68) (N := 53) (C := "TransportPairModel$Side") (ref := "TransportPairModel$Side") (T := zF_18) (by decide +kernel : decode zY_121.2.1 134 = .ok (.putfield 68, 3)) rfl zuw_18 zFt_18 zFn_18 (by decide) (zw_T zwd_642) rfl rfl rfl rfl (ty := .array .int) (by decide +kernel) (Or.inr ⟨_, rfl⟩)
theorem zf_zm_121_68 (env : List (Nat × Nat)) : zI9 121 zY_121 zm_121 env (137, 0, 0, 0, 0) 138 := zi_aload_n (by decide +kernel : decode zY_121.2.1 137 = .ok (.aload_n 0, 1)) rfl
theorem zf_zm_121_69 (env : List (Nat × Nat)) : zI9 121 zY_121 zm_121 env (138, 2, 1000, 0, 0) 141 := zi_sipush (by decide +kernel : decode zY_121.2.1 138 = .ok (.sipush 1000, 3)) (by decide +kernel)
theorem zf_zm_121_70 (env : List (Nat × Nat)) : zI9 121 zY_121 zm_121 env (141, 12, 0, 0, 0) 143 := zi_newI (by decide +kernel : decode zY_121.2.1 141 = .ok (.newarray .int, 2)) (zw_T zwd_16) rfl rfl (by decide) rfl
theorem zf_zm_121_71 (env : List (Nat × Nat)) : zI9 121 zY_121 zm_121 env (143, 4, 18, 42, 2) 146 := zi_putfF (i := 71) (N := 53) (C := "TransportPairModel$Side") (ref := "TransportPairModel$Side") (T := zF_18) (by decide +kernel : decode zY_121.2.1 143 = .ok (.putfield 71, 3)) rfl zuw_18 zFt_18 zFn_18 (by decide) (zw_T zwd_643) rfl rfl rfl rfl (ty := .array .int) (by decide +kernel) (Or.inr ⟨_, rfl⟩)
theorem zf_zm_121_72 (env : List (Nat × Nat)) : zI9 121 zY_121 zm_121 env (146, 0, 0, 0, 0) 147 := zi_aload_n (by decide +kernel : decode zY_121.2.1 146 = .ok (.aload_n 0, 1)) rfl
theorem zf_zm_121_73 (env : List (Nat × Nat)) : zI9 121 zY_121 zm_121 env (147, 2, 12291, 0, 0) 150 := zi_sipush (by decide +kernel : decode zY_121.2.1 147 = .ok (.sipush 12291, 3)) (by decide +kernel)
theorem zf_zm_121_74 (env : List (Nat × Nat)) : zI9 121 zY_121 zm_121 env (150, 12, 0, 0, 0) 152 := zi_newI (by decide +kernel : decode zY_121.2.1 150 = .ok (.newarray .int, 2)) (zw_T zwd_16) rfl rfl (by decide) rfl
theorem zf_zm_121_75 (env : List (Nat × Nat)) : zI9 121 zY_121 zm_121 env (152, 4, 18, 44, 2) 155 := zi_putfF (i := 74) (N := 53) (C := "TransportPairModel$Side") (ref := "TransportPairModel$Side") (T := zF_18) (by decide +kernel : decode zY_121.2.1 152 = .ok (.putfield 74, 3)) rfl zuw_18 zFt_18 zFn_18 (by decide) (zw_T zwd_644) rfl rfl rfl rfl (ty := .array .int) (by decide +kernel) (Or.inr ⟨_, rfl⟩)
theorem zf_zm_121_76 (env : List (Nat × Nat)) : zI9 121 zY_121 zm_121 env (155, 0, 0, 0, 0) 156 := zi_aload_n (by decide +kernel : decode zY_121.2.1 155 = .ok (.aload_n 0, 1)) rfl
theorem zf_zm_121_77 (env : List (Nat × Nat)) : zI9 121 zY_121 zm_121 env (156, 2, 3, 0, 0) 157 := zi_iconst (by decide +kernel : decode zY_121.2.1 156 = .ok (.iconst 3, 1)) (by decide +kernel)
theorem zf_zm_121_78 (env : List (Nat × Nat)) : zI9 121 zY_121 zm_121 env (157, 38, 0, 13, 0) 160 := zi_newA (i := 77) (C := "TransportPairModel$Cargo") (by decide +kernel : decode zY_121.2.1 157 = .ok (.anewarray 77, 3)) (zw_T zwd_645) (zw_N zwd_646) (fun _ _ _ h => h) rfl
theorem zf_zm_121_79 (env : List (Nat × Nat)) : zI9 121 zY_121 zm_121 env (160, 13, 0, 0, 0) 161 := zi_dup (by decide +kernel : decode zY_121.2.1 160 = .ok (.dup, 1))
theorem zf_zm_121_80 (env : List (Nat × Nat)) : zI9 121 zY_121 zm_121 env (161, 2, 0, 0, 0) 162 := zi_iconst (by decide +kernel : decode zY_121.2.1 161 = .ok (.iconst 0, 1)) (by decide +kernel)
theorem zf_zm_121_81 (env : List (Nat × Nat)) : zI9 121 zY_121 zm_121 env (162, 17, 14, 0, 6) 165 := zi_new (i := 77) (N := 6) (C := "TransportPairModel$Cargo") (T := zF_14) (ds := [0, 2, 2, 2, 2, 2]) (by decide +kernel : decode zY_121.2.1 162 = .ok (.new 77, 3)) rfl zuw_14 zFt_14 (zw_T zwd_645) (zw_T zwd_647) (zw_T zwd_648) rfl rfl rfl zFd_14
theorem zf_zm_121_82 (env : List (Nat × Nat)) : zI9 121 zY_121 zm_121 env (165, 13, 0, 0, 0) 166 := zi_dup (by decide +kernel : decode zY_121.2.1 165 = .ok (.dup, 1))
theorem zf_zm_121_83 (env : List (Nat × Nat)) : zC9 121 zm_121 env (166, 66, 118, 65, 1) := zi_call (by decide +kernel) (zr_IN (i := 79) (n := 0) zX_ok rfl (zgood_118) (by decide +kernel) (zw_T zwd_648) (zw_N zwd_649) rfl (zw_T zwd_650) rfl ⟨by decide +kernel, by decide +kernel, by decide +kernel⟩ rfl (by decide +kernel : decode (zYf 121).2.1 166 = .ok (.invokespecial 79, 3)))
theorem zf_zm_121_84 (env : List (Nat × Nat)) : zI9 121 zY_121 zm_121 env (169, 33, 0, 0, 0) 170 := zi_aast zft_all (by decide +kernel : decode zY_121.2.1 169 = .ok (.aastore, 1))
theorem zf_zm_121_85 (env : List (Nat × Nat)) : zI9 121 zY_121 zm_121 env (170, 13, 0, 0, 0) 171 := zi_dup (by decide +kernel : decode zY_121.2.1 170 = .ok (.dup, 1))
theorem zf_zm_121_86 (env : List (Nat × Nat)) : zI9 121 zY_121 zm_121 env (171, 2, 1, 0, 0) 172 := zi_iconst (by decide +kernel : decode zY_121.2.1 171 = .ok (.iconst 1, 1)) (by decide +kernel)
theorem zf_zm_121_87 (env : List (Nat × Nat)) : zI9 121 zY_121 zm_121 env (172, 17, 14, 0, 6) 175 := zi_new (i := 77) (N := 6) (C := "TransportPairModel$Cargo") (T := zF_14) (ds := [0, 2, 2, 2, 2, 2]) (by decide +kernel : decode zY_121.2.1 172 = .ok (.new 77, 3)) rfl zuw_14 zFt_14 (zw_T zwd_645) (zw_T zwd_647) (zw_T zwd_648) rfl rfl rfl zFd_14
theorem zf_zm_121_88 (env : List (Nat × Nat)) : zI9 121 zY_121 zm_121 env (175, 13, 0, 0, 0) 176 := zi_dup (by decide +kernel : decode zY_121.2.1 175 = .ok (.dup, 1))
theorem zf_zm_121_89 (env : List (Nat × Nat)) : zC9 121 zm_121 env (176, 66, 118, 65, 1) := zi_call (by decide +kernel) (zr_IN (i := 79) (n := 0) zX_ok rfl (zgood_118) (by decide +kernel) (zw_T zwd_648) (zw_N zwd_649) rfl (zw_T zwd_650) rfl ⟨by decide +kernel, by decide +kernel, by decide +kernel⟩ rfl (by decide +kernel : decode (zYf 121).2.1 176 = .ok (.invokespecial 79, 3)))
theorem zf_zm_121_90 (env : List (Nat × Nat)) : zI9 121 zY_121 zm_121 env (179, 33, 0, 0, 0) 180 := zi_aast zft_all (by decide +kernel : decode zY_121.2.1 179 = .ok (.aastore, 1))
theorem zf_zm_121_91 (env : List (Nat × Nat)) : zI9 121 zY_121 zm_121 env (180, 13, 0, 0, 0) 181 := zi_dup (by decide +kernel : decode zY_121.2.1 180 = .ok (.dup, 1))
theorem zf_zm_121_92 (env : List (Nat × Nat)) : zI9 121 zY_121 zm_121 env (181, 2, 2, 0, 0) 182 := zi_iconst (by decide +kernel : decode zY_121.2.1 181 = .ok (.iconst 2, 1)) (by decide +kernel)
theorem zf_zm_121_93 (env : List (Nat × Nat)) : zI9 121 zY_121 zm_121 env (182, 17, 14, 0, 6) 185 := zi_new (i := 77) (N := 6) (C := "TransportPairModel$Cargo") (T := zF_14) (ds := [0, 2, 2, 2, 2, 2]) (by decide +kernel : decode zY_121.2.1 182 = .ok (.new 77, 3)) rfl zuw_14 zFt_14 (zw_T zwd_645) (zw_T zwd_647) (zw_T zwd_648) rfl rfl rfl zFd_14
theorem zf_zm_121_94 (env : List (Nat × Nat)) : zI9 121 zY_121 zm_121 env (185, 13, 0, 0, 0) 186 := zi_dup (by decide +kernel : decode zY_121.2.1 185 = .ok (.dup, 1))
theorem zf_zm_121_95 (env : List (Nat × Nat)) : zC9 121 zm_121 env (186, 66, 118, 65, 1) := zi_call (by decide +kernel) (zr_IN (i := 79) (n := 0) zX_ok rfl (zgood_118) (by decide +kernel) (zw_T zwd_648) (zw_N zwd_649) rfl (zw_T zwd_650) rfl ⟨by decide +kernel, by decide +kernel, by decide +kernel⟩ rfl (by decide +kernel : decode (zYf 121).2.1 186 = .ok (.invokespecial 79, 3)))
theorem zf_zm_121_96 (env : List (Nat × Nat)) : zI9 121 zY_121 zm_121 env (189, 33, 0, 0, 0) 190 := zi_aast zft_all (by decide +kernel : decode zY_121.2.1 189 = .ok (.aastore, 1))
theorem zf_zm_121_97 (env : List (Nat × Nat)) : zI9 121 zY_121 zm_121 env (190, 4, 18, 45, 2) 193 := zi_putfF (i := 80) (N := 53) (C := "TransportPairModel$Side") (ref := "TransportPairModel$Side") (T := zF_18) (by decide +kernel : decode zY_121.2.1 190 = .ok (.putfield 80, 3)) rfl zuw_18 zFt_18 zFn_18 (by decide) (zw_T zwd_651) rfl rfl rfl rfl (ty := .array (.object "TransportPairModel$Cargo")) (by decide +kernel) (Or.inr ⟨_, rfl⟩)
theorem zf_zm_121_98 (env : List (Nat × Nat)) : zI9 121 zY_121 zm_121 env (193, 0, 0, 0, 0) 194 := zi_aload_n (by decide +kernel : decode zY_121.2.1 193 = .ok (.aload_n 0, 1)) rfl
theorem zf_zm_121_99 (env : List (Nat × Nat)) : zI9 121 zY_121 zm_121 env (194, 2, 1400, 0, 0) 197 := zi_sipush (by decide +kernel : decode zY_121.2.1 194 = .ok (.sipush 1400, 3)) (by decide +kernel)
theorem zf_zm_121_100 (env : List (Nat × Nat)) : zI9 121 zY_121 zm_121 env (197, 12, 0, 0, 0) 199 := zi_newI (by decide +kernel : decode zY_121.2.1 197 = .ok (.newarray .int, 2)) (zw_T zwd_16) rfl rfl (by decide) rfl
theorem zf_zm_121_101 (env : List (Nat × Nat)) : zI9 121 zY_121 zm_121 env (199, 4, 18, 46, 2) 202 := zi_putfF (i := 84) (N := 53) (C := "TransportPairModel$Side") (ref := "TransportPairModel$Side") (T := zF_18) (by decide +kernel : decode zY_121.2.1 199 = .ok (.putfield 84, 3)) rfl zuw_18 zFt_18 zFn_18 (by decide) (zw_T zwd_652) rfl rfl rfl rfl (ty := .array .int) (by decide +kernel) (Or.inr ⟨_, rfl⟩)
theorem zf_zm_121_102 (env : List (Nat × Nat)) : zI9 121 zY_121 zm_121 env (202, 0, 0, 0, 0) 203 := zi_aload_n (by decide +kernel : decode zY_121.2.1 202 = .ok (.aload_n 0, 1)) rfl
theorem zf_zm_121_103 (env : List (Nat × Nat)) : zI9 121 zY_121 zm_121 env (203, 2, 3, 0, 0) 204 := zi_iconst (by decide +kernel : decode zY_121.2.1 203 = .ok (.iconst 3, 1)) (by decide +kernel)
theorem zf_zm_121_104 (env : List (Nat × Nat)) : zI9 121 zY_121 zm_121 env (204, 38, 0, 14, 0) 207 := zi_newA (i := 87) (C := "TransportPairModel$Draft") (by decide +kernel : decode zY_121.2.1 204 = .ok (.anewarray 87, 3)) (zw_T zwd_653) (zw_N zwd_654) (fun _ _ _ h => h) rfl
theorem zf_zm_121_105 (env : List (Nat × Nat)) : zI9 121 zY_121 zm_121 env (207, 13, 0, 0, 0) 208 := zi_dup (by decide +kernel : decode zY_121.2.1 207 = .ok (.dup, 1))
theorem zf_zm_121_106 (env : List (Nat × Nat)) : zI9 121 zY_121 zm_121 env (208, 2, 0, 0, 0) 209 := zi_iconst (by decide +kernel : decode zY_121.2.1 208 = .ok (.iconst 0, 1)) (by decide +kernel)
theorem zf_zm_121_107 (env : List (Nat × Nat)) : zI9 121 zY_121 zm_121 env (209, 17, 15, 0, 2) 212 := zi_new (i := 87) (N := 2) (C := "TransportPairModel$Draft") (T := zF_15) (ds := [2, 0]) (by decide +kernel : decode zY_121.2.1 209 = .ok (.new 87, 3)) rfl zuw_15 zFt_15 (zw_T zwd_653) (zw_T zwd_655) (zw_T zwd_656) rfl rfl rfl zFd_15
theorem zf_zm_121_108 (env : List (Nat × Nat)) : zI9 121 zY_121 zm_121 env (212, 13, 0, 0, 0) 213 := zi_dup (by decide +kernel : decode zY_121.2.1 212 = .ok (.dup, 1))
theorem zf_zm_121_109 (env : List (Nat × Nat)) : zC9 121 zm_121 env (213, 66, 119, 65, 1) := zi_call (by decide +kernel) (zr_IN (i := 89) (n := 0) zX_ok rfl (zgood_119) (by decide +kernel) (zw_T zwd_656) (zw_N zwd_657) rfl (zw_T zwd_658) rfl ⟨by decide +kernel, by decide +kernel, by decide +kernel⟩ rfl (by decide +kernel : decode (zYf 121).2.1 213 = .ok (.invokespecial 89, 3)))
theorem zf_zm_121_110 (env : List (Nat × Nat)) : zI9 121 zY_121 zm_121 env (216, 33, 0, 0, 0) 217 := zi_aast zft_all (by decide +kernel : decode zY_121.2.1 216 = .ok (.aastore, 1))
theorem zf_zm_121_111 (env : List (Nat × Nat)) : zI9 121 zY_121 zm_121 env (217, 13, 0, 0, 0) 218 := zi_dup (by decide +kernel : decode zY_121.2.1 217 = .ok (.dup, 1))
theorem zf_zm_121_112 (env : List (Nat × Nat)) : zI9 121 zY_121 zm_121 env (218, 2, 1, 0, 0) 219 := zi_iconst (by decide +kernel : decode zY_121.2.1 218 = .ok (.iconst 1, 1)) (by decide +kernel)
theorem zf_zm_121_113 (env : List (Nat × Nat)) : zI9 121 zY_121 zm_121 env (219, 17, 15, 0, 2) 222 := zi_new (i := 87) (N := 2) (C := "TransportPairModel$Draft") (T := zF_15) (ds := [2, 0]) (by decide +kernel : decode zY_121.2.1 219 = .ok (.new 87, 3)) rfl zuw_15 zFt_15 (zw_T zwd_653) (zw_T zwd_655) (zw_T zwd_656) rfl rfl rfl zFd_15
theorem zf_zm_121_114 (env : List (Nat × Nat)) : zI9 121 zY_121 zm_121 env (222, 13, 0, 0, 0) 223 := zi_dup (by decide +kernel : decode zY_121.2.1 222 = .ok (.dup, 1))
theorem zf_zm_121_115 (env : List (Nat × Nat)) : zC9 121 zm_121 env (223, 66, 119, 65, 1) := zi_call (by decide +kernel) (zr_IN (i := 89) (n := 0) zX_ok rfl (zgood_119) (by decide +kernel) (zw_T zwd_656) (zw_N zwd_657) rfl (zw_T zwd_658) rfl ⟨by decide +kernel, by decide +kernel, by decide +kernel⟩ rfl (by decide +kernel : decode (zYf 121).2.1 223 = .ok (.invokespecial 89, 3)))
theorem zf_zm_121_116 (env : List (Nat × Nat)) : zI9 121 zY_121 zm_121 env (226, 33, 0, 0, 0) 227 := zi_aast zft_all (by decide +kernel : decode zY_121.2.1 226 = .ok (.aastore, 1))
theorem zf_zm_121_117 (env : List (Nat × Nat)) : zI9 121 zY_121 zm_121 env (227, 13, 0, 0, 0) 228 := zi_dup (by decide +kernel : decode zY_121.2.1 227 = .ok (.dup, 1))
theorem zf_zm_121_118 (env : List (Nat × Nat)) : zI9 121 zY_121 zm_121 env (228, 2, 2, 0, 0) 229 := zi_iconst (by decide +kernel : decode zY_121.2.1 228 = .ok (.iconst 2, 1)) (by decide +kernel)
theorem zf_zm_121_119 (env : List (Nat × Nat)) : zI9 121 zY_121 zm_121 env (229, 17, 15, 0, 2) 232 := zi_new (i := 87) (N := 2) (C := "TransportPairModel$Draft") (T := zF_15) (ds := [2, 0]) (by decide +kernel : decode zY_121.2.1 229 = .ok (.new 87, 3)) rfl zuw_15 zFt_15 (zw_T zwd_653) (zw_T zwd_655) (zw_T zwd_656) rfl rfl rfl zFd_15
theorem zf_zm_121_120 (env : List (Nat × Nat)) : zI9 121 zY_121 zm_121 env (232, 13, 0, 0, 0) 233 := zi_dup (by decide +kernel : decode zY_121.2.1 232 = .ok (.dup, 1))
theorem zf_zm_121_121 (env : List (Nat × Nat)) : zC9 121 zm_121 env (233, 66, 119, 65, 1) := zi_call (by decide +kernel) (zr_IN (i := 89) (n := 0) zX_ok rfl (zgood_119) (by decide +kernel) (zw_T zwd_656) (zw_N zwd_657) rfl (zw_T zwd_658) rfl ⟨by decide +kernel, by decide +kernel, by decide +kernel⟩ rfl (by decide +kernel : decode (zYf 121).2.1 233 = .ok (.invokespecial 89, 3)))
theorem zf_zm_121_122 (env : List (Nat × Nat)) : zI9 121 zY_121 zm_121 env (236, 33, 0, 0, 0) 237 := zi_aast zft_all (by decide +kernel : decode zY_121.2.1 236 = .ok (.aastore, 1))
theorem zf_zm_121_123 (env : List (Nat × Nat)) : zI9 121 zY_121 zm_121 env (237, 4, 18, 47, 2) 240 := zi_putfF (i := 90) (N := 53) (C := "TransportPairModel$Side") (ref := "TransportPairModel$Side") (T := zF_18) (by decide +kernel : decode zY_121.2.1 237 = .ok (.putfield 90, 3)) rfl zuw_18 zFt_18 zFn_18 (by decide) (zw_T zwd_659) rfl rfl rfl rfl (ty := .array (.object "TransportPairModel$Draft")) (by decide +kernel) (Or.inr ⟨_, rfl⟩)
theorem zf_zm_121_124 (env : List (Nat × Nat)) : zI9 121 zY_121 zm_121 env (240, 0, 0, 0, 0) 241 := zi_aload_n (by decide +kernel : decode zY_121.2.1 240 = .ok (.aload_n 0, 1)) rfl
theorem zf_zm_121_125 (env : List (Nat × Nat)) : zI9 121 zY_121 zm_121 env (241, 2, 3, 0, 0) 242 := zi_iconst (by decide +kernel : decode zY_121.2.1 241 = .ok (.iconst 3, 1)) (by decide +kernel)
theorem zf_zm_121_126 (env : List (Nat × Nat)) : zI9 121 zY_121 zm_121 env (242, 12, 0, 2, 0) 244 := zi_newI (by decide +kernel : decode zY_121.2.1 242 = .ok (.newarray .boolean, 2)) (zw_T zwd_43) rfl rfl (by decide) rfl
theorem zf_zm_121_127 (env : List (Nat × Nat)) : zI9 121 zY_121 zm_121 env (244, 4, 18, 48, 2) 247 := zi_putfF (i := 94) (N := 53) (C := "TransportPairModel$Side") (ref := "TransportPairModel$Side") (T := zF_18) (by decide +kernel : decode zY_121.2.1 244 = .ok (.putfield 94, 3)) rfl zuw_18 zFt_18 zFn_18 (by decide) (zw_T zwd_660) rfl rfl rfl rfl (ty := .array .boolean) (by decide +kernel) (Or.inr ⟨_, rfl⟩)
theorem zf_zm_121_128 (env : List (Nat × Nat)) : zI9 121 zY_121 zm_121 env (247, 0, 0, 0, 0) 248 := zi_aload_n (by decide +kernel : decode zY_121.2.1 247 = .ok (.aload_n 0, 1)) rfl
theorem zf_zm_121_129 (env : List (Nat × Nat)) : zI9 121 zY_121 zm_121 env (248, 2, 3, 0, 0) 249 := zi_iconst (by decide +kernel : decode zY_121.2.1 248 = .ok (.iconst 3, 1)) (by decide +kernel)
theorem zf_zm_121_130 (env : List (Nat × Nat)) : zI9 121 zY_121 zm_121 env (249, 12, 0, 2, 0) 251 := zi_newI (by decide +kernel : decode zY_121.2.1 249 = .ok (.newarray .boolean, 2)) (zw_T zwd_43) rfl rfl (by decide) rfl
theorem zf_zm_121_131 (env : List (Nat × Nat)) : zI9 121 zY_121 zm_121 env (251, 4, 18, 49, 2) 254 := zi_putfF (i := 97) (N := 53) (C := "TransportPairModel$Side") (ref := "TransportPairModel$Side") (T := zF_18) (by decide +kernel : decode zY_121.2.1 251 = .ok (.putfield 97, 3)) rfl zuw_18 zFt_18 zFn_18 (by decide) (zw_T zwd_661) rfl rfl rfl rfl (ty := .array .boolean) (by decide +kernel) (Or.inr ⟨_, rfl⟩)
theorem zf_zm_121_132 (env : List (Nat × Nat)) : zI9 121 zY_121 zm_121 env (254, 0, 0, 0, 0) 255 := zi_aload_n (by decide +kernel : decode zY_121.2.1 254 = .ok (.aload_n 0, 1)) rfl
theorem zf_zm_121_133 (env : List (Nat × Nat)) : zI9 121 zY_121 zm_121 env (255, 2, 3, 0, 0) 256 := zi_iconst (by decide +kernel : decode zY_121.2.1 255 = .ok (.iconst 3, 1)) (by decide +kernel)
theorem zf_zm_121_134 (env : List (Nat × Nat)) : zI9 121 zY_121 zm_121 env (256, 12, 0, 2, 0) 258 := zi_newI (by decide +kernel : decode zY_121.2.1 256 = .ok (.newarray .boolean, 2)) (zw_T zwd_43) rfl rfl (by decide) rfl
theorem zf_zm_121_135 (env : List (Nat × Nat)) : zI9 121 zY_121 zm_121 env (258, 4, 18, 50, 2) 261 := zi_putfF (i := 100) (N := 53) (C := "TransportPairModel$Side") (ref := "TransportPairModel$Side") (T := zF_18) (by decide +kernel : decode zY_121.2.1 258 = .ok (.putfield 100, 3)) rfl zuw_18 zFt_18 zFn_18 (by decide) (zw_T zwd_662) rfl rfl rfl rfl (ty := .array .boolean) (by decide +kernel) (Or.inr ⟨_, rfl⟩)
theorem zf_zm_121_136 (env : List (Nat × Nat)) : zI9 121 zY_121 zm_121 env (261, 0, 0, 0, 0) 262 := zi_aload_n (by decide +kernel : decode zY_121.2.1 261 = .ok (.aload_n 0, 1)) rfl
theorem zf_zm_121_137 (env : List (Nat × Nat)) : zI9 121 zY_121 zm_121 env (262, 17, 15, 0, 2) 265 := zi_new (i := 87) (N := 2) (C := "TransportPairModel$Draft") (T := zF_15) (ds := [2, 0]) (by decide +kernel : decode zY_121.2.1 262 = .ok (.new 87, 3)) rfl zuw_15 zFt_15 (zw_T zwd_653) (zw_T zwd_655) (zw_T zwd_656) rfl rfl rfl zFd_15
theorem zf_zm_121_138 (env : List (Nat × Nat)) : zI9 121 zY_121 zm_121 env (265, 13, 0, 0, 0) 266 := zi_dup (by decide +kernel : decode zY_121.2.1 265 = .ok (.dup, 1))
theorem zf_zm_121_139 (env : List (Nat × Nat)) : zC9 121 zm_121 env (266, 66, 119, 65, 1) := zi_call (by decide +kernel) (zr_IN (i := 89) (n := 0) zX_ok rfl (zgood_119) (by decide +kernel) (zw_T zwd_656) (zw_N zwd_657) rfl (zw_T zwd_658) rfl ⟨by decide +kernel, by decide +kernel, by decide +kernel⟩ rfl (by decide +kernel : decode (zYf 121).2.1 266 = .ok (.invokespecial 89, 3)))
theorem zf_zm_121_140 (env : List (Nat × Nat)) : zI9 121 zY_121 zm_121 env (269, 4, 18, 52, 2) 272 := zi_putfF (i := 103) (N := 53) (C := "TransportPairModel$Side") (ref := "TransportPairModel$Side") (T := zF_18) (by decide +kernel : decode zY_121.2.1 269 = .ok (.putfield 103, 3)) rfl zuw_18 zFt_18 zFn_18 (by decide) (zw_T zwd_663) rfl rfl rfl rfl (ty := .object "TransportPairModel$Draft") (by decide +kernel) (Or.inl ⟨_, rfl⟩)
theorem zf_zm_121_141 (env : List (Nat × Nat)) : zI9 121 zY_121 zm_121 env (272, 0, 0, 0, 0) 273 := zi_aload_n (by decide +kernel : decode zY_121.2.1 272 = .ok (.aload_n 0, 1)) rfl
theorem zf_zm_121_142 (env : List (Nat × Nat)) : zI9 121 zY_121 zm_121 env (273, 63, 1, 0, 0) 274 := zi_iload_n (by decide +kernel : decode zY_121.2.1 273 = .ok (.iload_n 1, 1)) rfl
theorem zf_zm_121_143 (env : List (Nat × Nat)) : zI9 121 zY_121 zm_121 env (274, 4, 18, 0, 0) 277 := zi_putfF (i := 107) (N := 53) (C := "TransportPairModel$Side") (ref := "TransportPairModel$Side") (T := zF_18) (by decide +kernel : decode zY_121.2.1 274 = .ok (.putfield 107, 3)) rfl zuw_18 zFt_18 zFn_18 (by decide) (zw_T zwd_664) rfl rfl rfl rfl (ty := .int) (by decide +kernel) (rfl)
theorem zf_zm_121_144 (env : List (Nat × Nat)) : zI9 121 zY_121 zm_121 env (277, 0, 0, 0, 0) 278 := zi_aload_n (by decide +kernel : decode zY_121.2.1 277 = .ok (.aload_n 0, 1)) rfl
theorem zf_zm_121_145 (env : List (Nat × Nat)) : zI9 121 zY_121 zm_121 env (278, 0, 2, 0, 0) 279 := zi_aload_n (by decide +kernel : decode zY_121.2.1 278 = .ok (.aload_n 2, 1)) rfl
theorem zf_zm_121_146 (env : List (Nat × Nat)) : zI9 121 zY_121 zm_121 env (279, 4, 18, 1, 2) 282 := zi_putfF (i := 111) (N := 53) (C := "TransportPairModel$Side") (ref := "TransportPairModel$Side") (T := zF_18) (by decide +kernel : decode zY_121.2.1 279 = .ok (.putfield 111, 3)) rfl zuw_18 zFt_18 zFn_18 (by decide) (zw_T zwd_665) rfl rfl rfl rfl (ty := .object "TransportPairModel$Seals") (by decide +kernel) (Or.inl ⟨_, rfl⟩)
theorem zf_zm_121_147 (env : List (Nat × Nat)) : zI9 121 zY_121 zm_121 env (282, 0, 0, 0, 0) 283 := zi_aload_n (by decide +kernel : decode zY_121.2.1 282 = .ok (.aload_n 0, 1)) rfl
theorem zf_zm_121_148 (env : List (Nat × Nat)) : zI9 121 zY_121 zm_121 env (283, 0, 3, 0, 0) 284 := zi_aload_n (by decide +kernel : decode zY_121.2.1 283 = .ok (.aload_n 3, 1)) rfl
theorem zf_zm_121_149 (env : List (Nat × Nat)) : zI9 121 zY_121 zm_121 env (284, 4, 18, 2, 2) 287 := zi_putfF (i := 115) (N := 53) (C := "TransportPairModel$Side") (ref := "TransportPairModel$Side") (T := zF_18) (by decide +kernel : decode zY_121.2.1 284 = .ok (.putfield 115, 3)) rfl zuw_18 zFt_18 zFn_18 (by decide) (zw_T zwd_666) rfl rfl rfl rfl (ty := .object "TransportPairModel$Streams") (by decide +kernel) (Or.inl ⟨_, rfl⟩)
theorem zf_zm_121_150 (env : List (Nat × Nat)) : zI9 121 zY_121 zm_121 env (287, 0, 0, 0, 0) 288 := zi_aload_n (by decide +kernel : decode zY_121.2.1 287 = .ok (.aload_n 0, 1)) rfl
theorem zf_zm_121_151 (env : List (Nat × Nat)) : zI9 121 zY_121 zm_121 env (288, 17, 16, 0, 23) 291 := zi_new (i := 119) (N := 23) (C := "TransportPairModel$Greet") (T := zF_16) (ds := [0, 2, 2, 2, 2, 0, 0, 0, 0, 2, 2, 2, 2, 2, 0, 2, 0, 2, 0, 2, 2, 2, 2]) (by decide +kernel : decode zY_121.2.1 288 = .ok (.new 119, 3)) rfl zuw_16 zFt_16 (zw_T zwd_667) (zw_T zwd_668) (zw_T zwd_669) rfl rfl rfl zFd_16
theorem zf_zm_121_152 (env : List (Nat × Nat)) : zI9 121 zY_121 zm_121 env (291, 13, 0, 0, 0) 292 := zi_dup (by decide +kernel : decode zY_121.2.1 291 = .ok (.dup, 1))
theorem zf_zm_121_153 (env : List (Nat × Nat)) : zI9 121 zY_121 zm_121 env (292, 63, 1, 0, 0) 293 := zi_iload_n (by decide +kernel : decode zY_121.2.1 292 = .ok (.iload_n 1, 1)) rfl
theorem zf_zm_121_154 (env : List (Nat × Nat)) : zI9 121 zY_121 zm_121 env (293, 0, 2, 0, 0) 294 := zi_aload_n (by decide +kernel : decode zY_121.2.1 293 = .ok (.aload_n 2, 1)) rfl
theorem zf_zm_121_155 (env : List (Nat × Nat)) : zC9 121 zm_121 env (294, 66, 120, 195, 1) := zi_call (by decide +kernel) (zr_I (i := 121) (n := 2) zX_ok rfl (zgood_120) (by decide +kernel) (zw_T zwd_669) (zw_T zwd_670) rfl (zw_T zwd_671) rfl ⟨by decide +kernel, by decide +kernel, by decide +kernel⟩ rfl (by decide +kernel : decode (zYf 121).2.1 294 = .ok (.invokespecial 121, 3)))
theorem zf_zm_121_156 (env : List (Nat × Nat)) : zI9 121 zY_121 zm_121 env (297, 4, 18, 3, 2) 300 := zi_putfF (i := 124) (N := 53) (C := "TransportPairModel$Side") (ref := "TransportPairModel$Side") (T := zF_18) (by decide +kernel : decode zY_121.2.1 297 = .ok (.putfield 124, 3)) rfl zuw_18 zFt_18 zFn_18 (by decide) (zw_T zwd_672) rfl rfl rfl rfl (ty := .object "TransportPairModel$Greet") (by decide +kernel) (Or.inl ⟨_, rfl⟩)
theorem zf_zm_121_157 (env : List (Nat × Nat)) : zR9 121 env (300, 21, 0, 0, 0) := zi_vret (by decide +kernel : decode (zYf 121).2.1 300 = .ok (.return_, 1)) rfl
set_option maxRecDepth 100000 in
theorem zc_zm_121 (env : List (Nat × Nat)) : zcode zX (z_QF zEX zcl zft) (z_zm zEX zX zWL zcl zft zYf) zYf zW zET zcl zft (zGv env) 121 zm_121 zm_121.1 := ⟨Or.inl ⟨1, zf_zm_121_0 env, zpc_c⟩,
  Or.inl ⟨4, zf_zm_121_1 env, zpc_c⟩,
  Or.inl ⟨5, zf_zm_121_2 env, zpc_c⟩,
  Or.inl ⟨8, zf_zm_121_3 env, zpc_c⟩,
  Or.inl ⟨9, zf_zm_121_4 env, zpc_c⟩,
  Or.inr (Or.inr (Or.inl ⟨zf_zm_121_5 env, zpc_c⟩)),
  Or.inl ⟨15, zf_zm_121_6 env, zpc_c⟩,
  Or.inl ⟨16, zf_zm_121_7 env, zpc_c⟩,
  Or.inl ⟨18, zf_zm_121_8 env, zpc_c⟩,
  Or.inl ⟨20, zf_zm_121_9 env, zpc_c⟩,
  Or.inl ⟨23, zf_zm_121_10 env, zpc_c⟩,
  Or.inl ⟨24, zf_zm_121_11 env, zpc_c⟩,
  Or.inl ⟨26, zf_zm_121_12 env, zpc_c⟩,
  Or.inl ⟨28, zf_zm_121_13 env, zpc_c⟩,
  Or.inl ⟨31, zf_zm_121_14 env, zpc_c⟩,
  Or.inl ⟨32, zf_zm_121_15 env, zpc_c⟩,
  Or.inl ⟨34, zf_zm_121_16 env, zpc_c⟩,
  Or.inl ⟨36, zf_zm_121_17 env, zpc_c⟩,
  Or.inl ⟨39, zf_zm_121_18 env, zpc_c⟩,
  Or.inl ⟨40, zf_zm_121_19 env, zpc_c⟩,
  Or.inl ⟨43, zf_zm_121_20 env, zpc_c⟩,
  Or.inl ⟨45, zf_zm_121_21 env, zpc_c⟩,
  Or.inl ⟨48, zf_zm_121_22 env, zpc_c⟩,
  Or.inl ⟨49, zf_zm_121_23 env, zpc_c⟩,
  Or.inl ⟨50, zf_zm_121_24 env, zpc_c⟩,
  Or.inl ⟨52, zf_zm_121_25 env, zpc_c⟩,
  Or.inl ⟨55, zf_zm_121_26 env, zpc_c⟩,
  Or.inl ⟨56, zf_zm_121_27 env, zpc_c⟩,
  Or.inl ⟨58, zf_zm_121_28 env, zpc_c⟩,
  Or.inl ⟨60, zf_zm_121_29 env, zpc_c⟩,
  Or.inl ⟨63, zf_zm_121_30 env, zpc_c⟩,
  Or.inl ⟨64, zf_zm_121_31 env, zpc_c⟩,
  Or.inl ⟨67, zf_zm_121_32 env, zpc_c⟩,
  Or.inl ⟨68, zf_zm_121_33 env, zpc_c⟩,
  Or.inr (Or.inr (Or.inl ⟨zf_zm_121_34 env, zpc_c⟩)),
  Or.inl ⟨74, zf_zm_121_35 env, zpc_c⟩,
  Or.inl ⟨75, zf_zm_121_36 env, zpc_c⟩,
  Or.inl ⟨77, zf_zm_121_37 env, zpc_c⟩,
  Or.inl ⟨79, zf_zm_121_38 env, zpc_c⟩,
  Or.inl ⟨82, zf_zm_121_39 env, zpc_c⟩,
  Or.inl ⟨83, zf_zm_121_40 env, zpc_c⟩,
  Or.inl ⟨84, zf_zm_121_41 env, zpc_c⟩,
  Or.inl ⟨86, zf_zm_121_42 env, zpc_c⟩,
  Or.inl ⟨89, zf_zm_121_43 env, zpc_c⟩,
  Or.inl ⟨90, zf_zm_121_44 env, zpc_c⟩,
  Or.inl ⟨93, zf_zm_121_45 env, zpc_c⟩,
  Or.inl ⟨95, zf_zm_121_46 env, zpc_c⟩,
  Or.inl ⟨98, zf_zm_121_47 env, zpc_c⟩,
  Or.inl ⟨99, zf_zm_121_48 env, zpc_c⟩,
  Or.inl ⟨102, zf_zm_121_49 env, zpc_c⟩,
  Or.inl ⟨104, zf_zm_121_50 env, zpc_c⟩,
  Or.inl ⟨107, zf_zm_121_51 env, zpc_c⟩,
  Or.inl ⟨108, zf_zm_121_52 env, zpc_c⟩,
  Or.inl ⟨109, zf_zm_121_53 env, zpc_c⟩,
  Or.inl ⟨111, zf_zm_121_54 env, zpc_c⟩,
  Or.inl ⟨114, zf_zm_121_55 env, zpc_c⟩,
  Or.inl ⟨115, zf_zm_121_56 env, zpc_c⟩,
  Or.inl ⟨118, zf_zm_121_57 env, zpc_c⟩,
  Or.inl ⟨120, zf_zm_121_58 env, zpc_c⟩,
  Or.inl ⟨123, zf_zm_121_59 env, zpc_c⟩,
  Or.inl ⟨124, zf_zm_121_60 env, zpc_c⟩,
  Or.inl ⟨125, zf_zm_121_61 env, zpc_c⟩,
  Or.inl ⟨127, zf_zm_121_62 env, zpc_c⟩,
  Or.inl ⟨130, zf_zm_121_63 env, zpc_c⟩,
  Or.inl ⟨131, zf_zm_121_64 env, zpc_c⟩,
  Or.inl ⟨132, zf_zm_121_65 env, zpc_c⟩,
  Or.inl ⟨134, zf_zm_121_66 env, zpc_c⟩,
  Or.inl ⟨137, zf_zm_121_67 env, zpc_c⟩,
  Or.inl ⟨138, zf_zm_121_68 env, zpc_c⟩,
  Or.inl ⟨141, zf_zm_121_69 env, zpc_c⟩,
  Or.inl ⟨143, zf_zm_121_70 env, zpc_c⟩,
  Or.inl ⟨146, zf_zm_121_71 env, zpc_c⟩,
  Or.inl ⟨147, zf_zm_121_72 env, zpc_c⟩,
  Or.inl ⟨150, zf_zm_121_73 env, zpc_c⟩,
  Or.inl ⟨152, zf_zm_121_74 env, zpc_c⟩,
  Or.inl ⟨155, zf_zm_121_75 env, zpc_c⟩,
  Or.inl ⟨156, zf_zm_121_76 env, zpc_c⟩,
  Or.inl ⟨157, zf_zm_121_77 env, zpc_c⟩,
  Or.inl ⟨160, zf_zm_121_78 env, zpc_c⟩,
  Or.inl ⟨161, zf_zm_121_79 env, zpc_c⟩,
  Or.inl ⟨162, zf_zm_121_80 env, zpc_c⟩,
  Or.inl ⟨165, zf_zm_121_81 env, zpc_c⟩,
  Or.inl ⟨166, zf_zm_121_82 env, zpc_c⟩,
  Or.inr (Or.inr (Or.inl ⟨zf_zm_121_83 env, zpc_c⟩)),
  Or.inl ⟨170, zf_zm_121_84 env, zpc_c⟩,
  Or.inl ⟨171, zf_zm_121_85 env, zpc_c⟩,
  Or.inl ⟨172, zf_zm_121_86 env, zpc_c⟩,
  Or.inl ⟨175, zf_zm_121_87 env, zpc_c⟩,
  Or.inl ⟨176, zf_zm_121_88 env, zpc_c⟩,
  Or.inr (Or.inr (Or.inl ⟨zf_zm_121_89 env, zpc_c⟩)),
  Or.inl ⟨180, zf_zm_121_90 env, zpc_c⟩,
  Or.inl ⟨181, zf_zm_121_91 env, zpc_c⟩,
  Or.inl ⟨182, zf_zm_121_92 env, zpc_c⟩,
  Or.inl ⟨185, zf_zm_121_93 env, zpc_c⟩,
  Or.inl ⟨186, zf_zm_121_94 env, zpc_c⟩,
  Or.inr (Or.inr (Or.inl ⟨zf_zm_121_95 env, zpc_c⟩)),
  Or.inl ⟨190, zf_zm_121_96 env, zpc_c⟩,
  Or.inl ⟨193, zf_zm_121_97 env, zpc_c⟩,
  Or.inl ⟨194, zf_zm_121_98 env, zpc_c⟩,
  Or.inl ⟨197, zf_zm_121_99 env, zpc_c⟩,
  Or.inl ⟨199, zf_zm_121_100 env, zpc_c⟩,
  Or.inl ⟨202, zf_zm_121_101 env, zpc_c⟩,
  Or.inl ⟨203, zf_zm_121_102 env, zpc_c⟩,
  Or.inl ⟨204, zf_zm_121_103 env, zpc_c⟩,
  Or.inl ⟨207, zf_zm_121_104 env, zpc_c⟩,
  Or.inl ⟨208, zf_zm_121_105 env, zpc_c⟩,
  Or.inl ⟨209, zf_zm_121_106 env, zpc_c⟩,
  Or.inl ⟨212, zf_zm_121_107 env, zpc_c⟩,
  Or.inl ⟨213, zf_zm_121_108 env, zpc_c⟩,
  Or.inr (Or.inr (Or.inl ⟨zf_zm_121_109 env, zpc_c⟩)),
  Or.inl ⟨217, zf_zm_121_110 env, zpc_c⟩,
  Or.inl ⟨218, zf_zm_121_111 env, zpc_c⟩,
  Or.inl ⟨219, zf_zm_121_112 env, zpc_c⟩,
  Or.inl ⟨222, zf_zm_121_113 env, zpc_c⟩,
  Or.inl ⟨223, zf_zm_121_114 env, zpc_c⟩,
  Or.inr (Or.inr (Or.inl ⟨zf_zm_121_115 env, zpc_c⟩)),
  Or.inl ⟨227, zf_zm_121_116 env, zpc_c⟩,
  Or.inl ⟨228, zf_zm_121_117 env, zpc_c⟩,
  Or.inl ⟨229, zf_zm_121_118 env, zpc_c⟩,
  Or.inl ⟨232, zf_zm_121_119 env, zpc_c⟩,
  Or.inl ⟨233, zf_zm_121_120 env, zpc_c⟩,
  Or.inr (Or.inr (Or.inl ⟨zf_zm_121_121 env, zpc_c⟩)),
  Or.inl ⟨237, zf_zm_121_122 env, zpc_c⟩,
  Or.inl ⟨240, zf_zm_121_123 env, zpc_c⟩,
  Or.inl ⟨241, zf_zm_121_124 env, zpc_c⟩,
  Or.inl ⟨242, zf_zm_121_125 env, zpc_c⟩,
  Or.inl ⟨244, zf_zm_121_126 env, zpc_c⟩,
  Or.inl ⟨247, zf_zm_121_127 env, zpc_c⟩,
  Or.inl ⟨248, zf_zm_121_128 env, zpc_c⟩,
  Or.inl ⟨249, zf_zm_121_129 env, zpc_c⟩,
  Or.inl ⟨251, zf_zm_121_130 env, zpc_c⟩,
  Or.inl ⟨254, zf_zm_121_131 env, zpc_c⟩,
  Or.inl ⟨255, zf_zm_121_132 env, zpc_c⟩,
  Or.inl ⟨256, zf_zm_121_133 env, zpc_c⟩,
  Or.inl ⟨258, zf_zm_121_134 env, zpc_c⟩,
  Or.inl ⟨261, zf_zm_121_135 env, zpc_c⟩,
  Or.inl ⟨262, zf_zm_121_136 env, zpc_c⟩,
  Or.inl ⟨265, zf_zm_121_137 env, zpc_c⟩,
  Or.inl ⟨266, zf_zm_121_138 env, zpc_c⟩,
  Or.inr (Or.inr (Or.inl ⟨zf_zm_121_139 env, zpc_c⟩)),
  Or.inl ⟨272, zf_zm_121_140 env, zpc_c⟩,
  Or.inl ⟨273, zf_zm_121_141 env, zpc_c⟩,
  Or.inl ⟨274, zf_zm_121_142 env, zpc_c⟩,
  Or.inl ⟨277, zf_zm_121_143 env, zpc_c⟩,
  Or.inl ⟨278, zf_zm_121_144 env, zpc_c⟩,
  Or.inl ⟨279, zf_zm_121_145 env, zpc_c⟩,
  Or.inl ⟨282, zf_zm_121_146 env, zpc_c⟩,
  Or.inl ⟨283, zf_zm_121_147 env, zpc_c⟩,
  Or.inl ⟨284, zf_zm_121_148 env, zpc_c⟩,
  Or.inl ⟨287, zf_zm_121_149 env, zpc_c⟩,
  Or.inl ⟨288, zf_zm_121_150 env, zpc_c⟩,
  Or.inl ⟨291, zf_zm_121_151 env, zpc_c⟩,
  Or.inl ⟨292, zf_zm_121_152 env, zpc_c⟩,
  Or.inl ⟨293, zf_zm_121_153 env, zpc_c⟩,
  Or.inl ⟨294, zf_zm_121_154 env, zpc_c⟩,
  Or.inr (Or.inr (Or.inl ⟨zf_zm_121_155 env, zpc_c⟩)),
  Or.inl ⟨300, zf_zm_121_156 env, zpc_c⟩,
  Or.inr (Or.inl (zf_zm_121_157 env)), trivial⟩
theorem zf_zm_122_0 (env : List (Nat × Nat)) : zI9 122 zY_122 zm_122 env (0, 0, 0, 0, 0) 1 := zi_aload_n (by decide +kernel : decode zY_122.2.1 0 = .ok (.aload_n 0, 1)) rfl
theorem zf_zm_122_1 (env : List (Nat × Nat)) : zI9 122 zY_122 zm_122 env (1, 1, 18, 8, 0) 4 := zi_getf (i := 128) (N := 53) (C := "TransportPairModel$Side") (ref := "TransportPairModel$Side") (T := zF_18) (by decide +kernel : decode zY_122.2.1 1 = .ok (.getfield 128, 3)) rfl zuw_18 (by decide) (zw_T zwd_673) rfl
theorem zf_zm_122_2 (env : List (Nat × Nat)) : zI9 122 zY_122 zm_122 env (4, 2, 1, 0, 0) 5 := zi_iconst (by decide +kernel : decode zY_122.2.1 4 = .ok (.iconst 1, 1)) (by decide +kernel)
theorem zf_zm_122_3 (env : List (Nat × Nat)) : zI9 122 zY_122 zm_122 env (5, 20, 8, 0, 0) 8 := zi_icmp_eq (off := 11) (t := 16) (by decide +kernel : decode zY_122.2.1 5 = .ok (.if_icmp .eq 11, 3)) (by decide) (by decide +kernel)
theorem zf_zm_122_4 (env : List (Nat × Nat)) : zI9 122 zY_122 zm_122 env (8, 0, 0, 0, 0) 9 := zi_aload_n (by decide +kernel : decode zY_122.2.1 8 = .ok (.aload_n 0, 1)) rfl
theorem zf_zm_122_5 (env : List (Nat × Nat)) : zI9 122 zY_122 zm_122 env (9, 1, 18, 8, 0) 12 := zi_getf (i := 128) (N := 53) (C := "TransportPairModel$Side") (ref := "TransportPairModel$Side") (T := zF_18) (by decide +kernel : decode zY_122.2.1 9 = .ok (.getfield 128, 3)) rfl zuw_18 (by decide) (zw_T zwd_673) rfl
theorem zf_zm_122_6 (env : List (Nat × Nat)) : zI9 122 zY_122 zm_122 env (12, 2, 2, 0, 0) 13 := zi_iconst (by decide +kernel : decode zY_122.2.1 12 = .ok (.iconst 2, 1)) (by decide +kernel)
theorem zf_zm_122_7 (env : List (Nat × Nat)) : zI9 122 zY_122 zm_122 env (13, 29, 9, 0, 0) 16 := zi_icmp_ne (off := 7) (t := 20) (by decide +kernel : decode zY_122.2.1 13 = .ok (.if_icmp .ne 7, 3)) (by decide) (by decide +kernel)
theorem zf_zm_122_8 (env : List (Nat × Nat)) : zI9 122 zY_122 zm_122 env (16, 99, 0, 0, 0) 20 := zi_none
theorem zf_zm_122_9 (env : List (Nat × Nat)) : zI9 122 zY_122 zm_122 env (20, 2, 0, 0, 0) 21 := zi_iconst (by decide +kernel : decode zY_122.2.1 20 = .ok (.iconst 0, 1)) (by decide +kernel)
theorem zf_zm_122_10 (env : List (Nat × Nat)) : zR9 122 env (21, 11, 3, 0, 0) := zi_zret (by decide +kernel : decode (zYf 122).2.1 21 = .ok (.ireturn, 1)) rfl
set_option maxRecDepth 100000 in
theorem zc_zm_122 (env : List (Nat × Nat)) : zcode zX (z_QF zEX zcl zft) (z_zm zEX zX zWL zcl zft zYf) zYf zW zET zcl zft (zGv env) 122 zm_122 zm_122.1 := ⟨Or.inl ⟨1, zf_zm_122_0 env, zpc_c⟩,
  Or.inl ⟨4, zf_zm_122_1 env, zpc_c⟩,
  Or.inl ⟨5, zf_zm_122_2 env, zpc_c⟩,
  Or.inl ⟨8, zf_zm_122_3 env, zpc_c⟩,
  Or.inl ⟨9, zf_zm_122_4 env, zpc_c⟩,
  Or.inl ⟨12, zf_zm_122_5 env, zpc_c⟩,
  Or.inl ⟨13, zf_zm_122_6 env, zpc_c⟩,
  Or.inl ⟨16, zf_zm_122_7 env, zpc_c⟩,
  Or.inl ⟨20, zf_zm_122_8 env, zpc_c⟩,
  Or.inl ⟨21, zf_zm_122_9 env, zpc_c⟩,
  Or.inr (Or.inl (zf_zm_122_10 env)), trivial⟩
theorem zf_zm_123_0 (env : List (Nat × Nat)) : zI9 123 zY_123 zm_123 env (0, 0, 0, 0, 0) 1 := zi_aload_n (by decide +kernel : decode zY_123.2.1 0 = .ok (.aload_n 0, 1)) rfl
theorem zf_zm_123_1 (env : List (Nat × Nat)) : zI9 123 zY_123 zm_123 env (1, 1, 18, 19, 2) 4 := zi_getf (i := 32) (N := 53) (C := "TransportPairModel$Side") (ref := "TransportPairModel$Side") (T := zF_18) (by decide +kernel : decode zY_123.2.1 1 = .ok (.getfield 32, 3)) rfl zuw_18 (by decide) (zw_T zwd_630) rfl
theorem zf_zm_123_2 (env : List (Nat × Nat)) : zI9 123 zY_123 zm_123 env (4, 63, 1, 0, 0) 5 := zi_iload_n (by decide +kernel : decode zY_123.2.1 4 = .ok (.iload_n 1, 1)) rfl
theorem zf_zm_123_3 (env : List (Nat × Nat)) : zI9 123 zY_123 zm_123 env (5, 62, 0, 0, 0) 6 := zi_bald (by decide +kernel : decode zY_123.2.1 5 = .ok (.baload, 1))
theorem zf_zm_123_4 (env : List (Nat × Nat)) : zI9 123 zY_123 zm_123 env (6, 5, 6, 0, 0) 9 := zi_if_eq (off := 19) (t := 25) (by decide +kernel : decode zY_123.2.1 6 = .ok (.ifCond .eq 19, 3)) (by decide) (by decide +kernel)
theorem zf_zm_123_5 (env : List (Nat × Nat)) : zI9 123 zY_123 zm_123 env (9, 99, 0, 0, 0) 25 := zi_none
theorem zf_zm_123_6 (env : List (Nat × Nat)) : zI9 123 zY_123 zm_123 env (25, 2, 0, 0, 0) 26 := zi_iconst (by decide +kernel : decode zY_123.2.1 25 = .ok (.iconst 0, 1)) (by decide +kernel)
theorem zf_zm_123_7 (env : List (Nat × Nat)) : zR9 123 env (26, 11, 3, 0, 0) := zi_zret (by decide +kernel : decode (zYf 123).2.1 26 = .ok (.ireturn, 1)) rfl
set_option maxRecDepth 100000 in
theorem zc_zm_123 (env : List (Nat × Nat)) : zcode zX (z_QF zEX zcl zft) (z_zm zEX zX zWL zcl zft zYf) zYf zW zET zcl zft (zGv env) 123 zm_123 zm_123.1 := ⟨Or.inl ⟨1, zf_zm_123_0 env, zpc_c⟩,
  Or.inl ⟨4, zf_zm_123_1 env, zpc_c⟩,
  Or.inl ⟨5, zf_zm_123_2 env, zpc_c⟩,
  Or.inl ⟨6, zf_zm_123_3 env, zpc_c⟩,
  Or.inl ⟨9, zf_zm_123_4 env, zpc_c⟩,
  Or.inl ⟨25, zf_zm_123_5 env, zpc_c⟩,
  Or.inl ⟨26, zf_zm_123_6 env, zpc_c⟩,
  Or.inr (Or.inl (zf_zm_123_7 env)), trivial⟩
theorem zf_zm_124_0 (env : List (Nat × Nat)) : zI9 124 zY_124 zm_124 env (0, 0, 0, 0, 0) 1 := zi_aload_n (by decide +kernel : decode zY_124.2.1 0 = .ok (.aload_n 0, 1)) rfl
theorem zf_zm_124_1 (env : List (Nat × Nat)) : zI9 124 zY_124 zm_124 env (1, 1, 18, 4, 2) 4 := zi_getf (i := 12) (N := 53) (C := "TransportPairModel$Side") (ref := "TransportPairModel$Side") (T := zF_18) (by decide +kernel : decode zY_124.2.1 1 = .ok (.getfield 12, 3)) rfl zuw_18 (by decide) (zw_T zwd_625) rfl
theorem zf_zm_124_2 (env : List (Nat × Nat)) : zC9 124 zm_124 env (4, 66, 115, 69, 15) := zi_call (by decide +kernel) (zr_V (i := 485) (n := 0) (q := ("TransportPairModel$Book", zF_13, 38)) zX_ok rfl (zgood_115) (by decide +kernel) (zw_T zwd_307) (zw_T zwd_674) (zw_T zwd_675) rfl (zw_T zwd_676) ⟨by decide +kernel, by decide +kernel, by decide +kernel⟩ rfl (by decide +kernel : decode (zYf 124).2.1 4 = .ok (.invokevirtual 485, 3)))
theorem zf_zm_124_3 (env : List (Nat × Nat)) : zI9 124 zY_124 zm_124 env (7, 10, 1, 0, 0) 8 := zi_istore_n (by decide +kernel : decode zY_124.2.1 7 = .ok (.istore_n 1, 1)) rfl (by decide)
theorem zf_zm_124_4 (env : List (Nat × Nat)) : zI9 124 zY_124 zm_124 env (8, 0, 0, 0, 0) 9 := zi_aload_n (by decide +kernel : decode zY_124.2.1 8 = .ok (.aload_n 0, 1)) rfl
theorem zf_zm_124_5 (env : List (Nat × Nat)) : zI9 124 zY_124 zm_124 env (9, 1, 18, 8, 0) 12 := zi_getf (i := 128) (N := 53) (C := "TransportPairModel$Side") (ref := "TransportPairModel$Side") (T := zF_18) (by decide +kernel : decode zY_124.2.1 9 = .ok (.getfield 128, 3)) rfl zuw_18 (by decide) (zw_T zwd_673) rfl
theorem zf_zm_124_6 (env : List (Nat × Nat)) : zI9 124 zY_124 zm_124 env (12, 2, 3, 0, 0) 13 := zi_iconst (by decide +kernel : decode zY_124.2.1 12 = .ok (.iconst 3, 1)) (by decide +kernel)
theorem zf_zm_124_7 (env : List (Nat × Nat)) : zI9 124 zY_124 zm_124 env (13, 20, 12, 0, 0) 16 := zi_icmp_eq (off := 11) (t := 24) (by decide +kernel : decode zY_124.2.1 13 = .ok (.if_icmp .eq 11, 3)) (by decide) (by decide +kernel)
theorem zf_zm_124_8 (env : List (Nat × Nat)) : zI9 124 zY_124 zm_124 env (16, 0, 0, 0, 0) 17 := zi_aload_n (by decide +kernel : decode zY_124.2.1 16 = .ok (.aload_n 0, 1)) rfl
theorem zf_zm_124_9 (env : List (Nat × Nat)) : zI9 124 zY_124 zm_124 env (17, 1, 18, 8, 0) 20 := zi_getf (i := 128) (N := 53) (C := "TransportPairModel$Side") (ref := "TransportPairModel$Side") (T := zF_18) (by decide +kernel : decode zY_124.2.1 17 = .ok (.getfield 128, 3)) rfl zuw_18 (by decide) (zw_T zwd_673) rfl
theorem zf_zm_124_10 (env : List (Nat × Nat)) : zI9 124 zY_124 zm_124 env (20, 2, 4, 0, 0) 21 := zi_iconst (by decide +kernel : decode zY_124.2.1 20 = .ok (.iconst 4, 1)) (by decide +kernel)
theorem zf_zm_124_11 (env : List (Nat × Nat)) : zI9 124 zY_124 zm_124 env (21, 29, 13, 0, 0) 24 := zi_icmp_ne (off := 23) (t := 44) (by decide +kernel : decode zY_124.2.1 21 = .ok (.if_icmp .ne 23, 3)) (by decide) (by decide +kernel)
theorem zf_zm_124_12 (env : List (Nat × Nat)) : zI9 124 zY_124 zm_124 env (24, 99, 0, 0, 0) 44 := zi_none
theorem zf_zm_124_13 (env : List (Nat × Nat)) : zI9 124 zY_124 zm_124 env (44, 0, 0, 0, 0) 45 := zi_aload_n (by decide +kernel : decode zY_124.2.1 44 = .ok (.aload_n 0, 1)) rfl
theorem zf_zm_124_14 (env : List (Nat × Nat)) : zC9 124 zm_124 env (45, 66, 122, 65, 20) := zi_call (by decide +kernel) (zr_V (i := 220) (n := 0) (q := ("TransportPairModel$Side", zF_18, 53)) zX_ok rfl (zgood_122) (by decide +kernel) (zw_T zwd_228) (zw_T zwd_677) (zw_T zwd_286) rfl (zw_T zwd_287) ⟨by decide +kernel, by decide +kernel, by decide +kernel⟩ rfl (by decide +kernel : decode (zYf 124).2.1 45 = .ok (.invokevirtual 220, 3)))
theorem zf_zm_124_15 (env : List (Nat × Nat)) : zI9 124 zY_124 zm_124 env (48, 6, 17, 0, 0) 51 := zi_if_ne (off := 4) (t := 52) (by decide +kernel : decode zY_124.2.1 48 = .ok (.ifCond .ne 4, 3)) (by decide) (by decide +kernel)
theorem zf_zm_124_16 (env : List (Nat × Nat)) : zR9 124 env (51, 21, 0, 0, 0) := zi_vret (by decide +kernel : decode (zYf 124).2.1 51 = .ok (.return_, 1)) rfl
theorem zf_zm_124_17 (env : List (Nat × Nat)) : zI9 124 zY_124 zm_124 env (52, 99, 0, 0, 0) 0 := zi_none
set_option maxRecDepth 100000 in
theorem zc_zm_124 (env : List (Nat × Nat)) : zcode zX (z_QF zEX zcl zft) (z_zm zEX zX zWL zcl zft zYf) zYf zW zET zcl zft (zGv env) 124 zm_124 zm_124.1 := ⟨Or.inl ⟨1, zf_zm_124_0 env, zpc_c⟩,
  Or.inl ⟨4, zf_zm_124_1 env, zpc_c⟩,
  Or.inr (Or.inr (Or.inl ⟨zf_zm_124_2 env, zpc_c⟩)),
  Or.inl ⟨8, zf_zm_124_3 env, zpc_c⟩,
  Or.inl ⟨9, zf_zm_124_4 env, zpc_c⟩,
  Or.inl ⟨12, zf_zm_124_5 env, zpc_c⟩,
  Or.inl ⟨13, zf_zm_124_6 env, zpc_c⟩,
  Or.inl ⟨16, zf_zm_124_7 env, zpc_c⟩,
  Or.inl ⟨17, zf_zm_124_8 env, zpc_c⟩,
  Or.inl ⟨20, zf_zm_124_9 env, zpc_c⟩,
  Or.inl ⟨21, zf_zm_124_10 env, zpc_c⟩,
  Or.inl ⟨24, zf_zm_124_11 env, zpc_c⟩,
  Or.inl ⟨44, zf_zm_124_12 env, zpc_c⟩,
  Or.inl ⟨45, zf_zm_124_13 env, zpc_c⟩,
  Or.inr (Or.inr (Or.inl ⟨zf_zm_124_14 env, zpc_c⟩)),
  Or.inl ⟨51, zf_zm_124_15 env, zpc_c⟩,
  Or.inr (Or.inl (zf_zm_124_16 env)),
  Or.inl ⟨0, zf_zm_124_17 env, zpc_n⟩, trivial⟩
theorem zf_zm_125_0 (env : List (Nat × Nat)) : zI9 125 zY_125 zm_125 env (0, 0, 0, 0, 0) 1 := zi_aload_n (by decide +kernel : decode zY_125.2.1 0 = .ok (.aload_n 0, 1)) rfl
theorem zf_zm_125_1 (env : List (Nat × Nat)) : zI9 125 zY_125 zm_125 env (1, 1, 19, 0, 2) 4 := zi_getf (i := 9) (N := 56) (C := "TransportPairModel$Streams") (ref := "TransportPairModel$Streams") (T := zF_19) (by decide +kernel : decode zY_125.2.1 1 = .ok (.getfield 9, 3)) rfl zuw_19 (by decide) (zw_T zwd_36) rfl
theorem zf_zm_125_2 (env : List (Nat × Nat)) : zI9 125 zY_125 zm_125 env (4, 2, 16, 0, 0) 6 := zi_bipush (by decide +kernel : decode zY_125.2.1 4 = .ok (.bipush 16, 2)) (by decide +kernel)
theorem zf_zm_125_3 (env : List (Nat × Nat)) : zI9 125 zY_125 zm_125 env (6, 63, 1, 0, 0) 7 := zi_iload_n (by decide +kernel : decode zY_125.2.1 6 = .ok (.iload_n 1, 1)) rfl
theorem zf_zm_125_4 (env : List (Nat × Nat)) : zI9 125 zY_125 zm_125 env (7, 36, 0, 0, 0) 8 := zi_imul (by decide +kernel : decode zY_125.2.1 7 = .ok (.imul, 1))
theorem zf_zm_125_5 (env : List (Nat × Nat)) : zI9 125 zY_125 zm_125 env (8, 63, 2, 0, 0) 9 := zi_iload_n (by decide +kernel : decode zY_125.2.1 8 = .ok (.iload_n 2, 1)) rfl
theorem zf_zm_125_6 (env : List (Nat × Nat)) : zI9 125 zY_125 zm_125 env (9, 9, 0, 0, 0) 10 := zi_iadd (by decide +kernel : decode zY_125.2.1 9 = .ok (.iadd, 1))
theorem zf_zm_125_7 (env : List (Nat × Nat)) : zI9 125 zY_125 zm_125 env (10, 64, 3, 0, 0) 11 := zi_lload_n (by decide +kernel : decode zY_125.2.1 10 = .ok (.lload_n 3, 1)) rfl
theorem zf_zm_125_8 (env : List (Nat × Nat)) : zI9 125 zY_125 zm_125 env (11, 18, 0, 0, 0) 12 := zi_last (by decide +kernel : decode zY_125.2.1 11 = .ok (.lastore, 1))
theorem zf_zm_125_9 (env : List (Nat × Nat)) : zI9 125 zY_125 zm_125 env (12, 63, 2, 0, 0) 13 := zi_iload_n (by decide +kernel : decode zY_125.2.1 12 = .ok (.iload_n 2, 1)) rfl
theorem zf_zm_125_10 (env : List (Nat × Nat)) : zI9 125 zY_125 zm_125 env (13, 2, 4, 0, 0) 14 := zi_iconst (by decide +kernel : decode zY_125.2.1 13 = .ok (.iconst 4, 1)) (by decide +kernel)
theorem zf_zm_125_11 (env : List (Nat × Nat)) : zI9 125 zY_125 zm_125 env (14, 29, 17, 0, 0) 17 := zi_icmp_ne (off := 10) (t := 24) (by decide +kernel : decode zY_125.2.1 14 = .ok (.if_icmp .ne 10, 3)) (by decide) (by decide +kernel)
theorem zf_zm_125_12 (env : List (Nat × Nat)) : zI9 125 zY_125 zm_125 env (17, 0, 0, 0, 0) 18 := zi_aload_n (by decide +kernel : decode zY_125.2.1 17 = .ok (.aload_n 0, 1)) rfl
theorem zf_zm_125_13 (env : List (Nat × Nat)) : zI9 125 zY_125 zm_125 env (18, 1, 19, 9, 2) 21 := zi_getf (i := 41) (N := 56) (C := "TransportPairModel$Streams") (ref := "TransportPairModel$Streams") (T := zF_19) (by decide +kernel : decode zY_125.2.1 18 = .ok (.getfield 41, 3)) rfl zuw_19 (by decide) (zw_T zwd_46) rfl
theorem zf_zm_125_14 (env : List (Nat × Nat)) : zI9 125 zY_125 zm_125 env (21, 63, 1, 0, 0) 22 := zi_iload_n (by decide +kernel : decode zY_125.2.1 21 = .ok (.iload_n 1, 1)) rfl
theorem zf_zm_125_15 (env : List (Nat × Nat)) : zI9 125 zY_125 zm_125 env (22, 64, 3, 0, 0) 23 := zi_lload_n (by decide +kernel : decode zY_125.2.1 22 = .ok (.lload_n 3, 1)) rfl
theorem zf_zm_125_16 (env : List (Nat × Nat)) : zI9 125 zY_125 zm_125 env (23, 18, 0, 0, 0) 24 := zi_last (by decide +kernel : decode zY_125.2.1 23 = .ok (.lastore, 1))
theorem zf_zm_125_17 (env : List (Nat × Nat)) : zI9 125 zY_125 zm_125 env (24, 63, 2, 0, 0) 25 := zi_iload_n (by decide +kernel : decode zY_125.2.1 24 = .ok (.iload_n 2, 1)) rfl
theorem zf_zm_125_18 (env : List (Nat × Nat)) : zI9 125 zY_125 zm_125 env (25, 2, 7, 0, 0) 27 := zi_bipush (by decide +kernel : decode zY_125.2.1 25 = .ok (.bipush 7, 2)) (by decide +kernel)
theorem zf_zm_125_19 (env : List (Nat × Nat)) : zI9 125 zY_125 zm_125 env (27, 27, 32, 0, 0) 30 := zi_icmp_le (off := 18) (t := 45) (by decide +kernel : decode zY_125.2.1 27 = .ok (.if_icmp .le 18, 3)) (by decide) (by decide +kernel)
theorem zf_zm_125_20 (env : List (Nat × Nat)) : zI9 125 zY_125 zm_125 env (30, 0, 0, 0, 0) 31 := zi_aload_n (by decide +kernel : decode zY_125.2.1 30 = .ok (.aload_n 0, 1)) rfl
theorem zf_zm_125_21 (env : List (Nat × Nat)) : zI9 125 zY_125 zm_125 env (31, 1, 19, 6, 2) 34 := zi_getf (i := 31) (N := 56) (C := "TransportPairModel$Streams") (ref := "TransportPairModel$Streams") (T := zF_19) (by decide +kernel : decode zY_125.2.1 31 = .ok (.getfield 31, 3)) rfl zuw_19 (by decide) (zw_T zwd_42) rfl
theorem zf_zm_125_22 (env : List (Nat × Nat)) : zI9 125 zY_125 zm_125 env (34, 2, 2, 0, 0) 35 := zi_iconst (by decide +kernel : decode zY_125.2.1 34 = .ok (.iconst 2, 1)) (by decide +kernel)
theorem zf_zm_125_23 (env : List (Nat × Nat)) : zI9 125 zY_125 zm_125 env (35, 63, 1, 0, 0) 36 := zi_iload_n (by decide +kernel : decode zY_125.2.1 35 = .ok (.iload_n 1, 1)) rfl
theorem zf_zm_125_24 (env : List (Nat × Nat)) : zI9 125 zY_125 zm_125 env (36, 36, 0, 0, 0) 37 := zi_imul (by decide +kernel : decode zY_125.2.1 36 = .ok (.imul, 1))
theorem zf_zm_125_25 (env : List (Nat × Nat)) : zI9 125 zY_125 zm_125 env (37, 63, 2, 0, 0) 38 := zi_iload_n (by decide +kernel : decode zY_125.2.1 37 = .ok (.iload_n 2, 1)) rfl
theorem zf_zm_125_26 (env : List (Nat × Nat)) : zI9 125 zY_125 zm_125 env (38, 9, 0, 0, 0) 39 := zi_iadd (by decide +kernel : decode zY_125.2.1 38 = .ok (.iadd, 1))
theorem zf_zm_125_27 (env : List (Nat × Nat)) : zI9 125 zY_125 zm_125 env (39, 2, 8, 0, 0) 41 := zi_bipush (by decide +kernel : decode zY_125.2.1 39 = .ok (.bipush 8, 2)) (by decide +kernel)
theorem zf_zm_125_28 (env : List (Nat × Nat)) : zI9 125 zY_125 zm_125 env (41, 37, 0, 0, 0) 42 := zi_isub (by decide +kernel : decode zY_125.2.1 41 = .ok (.isub, 1))
theorem zf_zm_125_29 (env : List (Nat × Nat)) : zI9 125 zY_125 zm_125 env (42, 64, 3, 0, 0) 43 := zi_lload_n (by decide +kernel : decode zY_125.2.1 42 = .ok (.lload_n 3, 1)) rfl
theorem zf_zm_125_30 (env : List (Nat × Nat)) : zI9 125 zY_125 zm_125 env (43, 52, 0, 0, 0) 44 := zi_l2i (by decide +kernel : decode zY_125.2.1 43 = .ok (.l2i, 1))
theorem zf_zm_125_31 (env : List (Nat × Nat)) : zI9 125 zY_125 zm_125 env (44, 32, 0, 0, 0) 45 := zi_iast (by decide +kernel : decode zY_125.2.1 44 = .ok (.iastore, 1))
theorem zf_zm_125_32 (env : List (Nat × Nat)) : zR9 125 env (45, 21, 0, 0, 0) := zi_vret (by decide +kernel : decode (zYf 125).2.1 45 = .ok (.return_, 1)) rfl
set_option maxRecDepth 100000 in
theorem zc_zm_125 (env : List (Nat × Nat)) : zcode zX (z_QF zEX zcl zft) (z_zm zEX zX zWL zcl zft zYf) zYf zW zET zcl zft (zGv env) 125 zm_125 zm_125.1 := ⟨Or.inl ⟨1, zf_zm_125_0 env, zpc_c⟩,
  Or.inl ⟨4, zf_zm_125_1 env, zpc_c⟩,
  Or.inl ⟨6, zf_zm_125_2 env, zpc_c⟩,
  Or.inl ⟨7, zf_zm_125_3 env, zpc_c⟩,
  Or.inl ⟨8, zf_zm_125_4 env, zpc_c⟩,
  Or.inl ⟨9, zf_zm_125_5 env, zpc_c⟩,
  Or.inl ⟨10, zf_zm_125_6 env, zpc_c⟩,
  Or.inl ⟨11, zf_zm_125_7 env, zpc_c⟩,
  Or.inl ⟨12, zf_zm_125_8 env, zpc_c⟩,
  Or.inl ⟨13, zf_zm_125_9 env, zpc_c⟩,
  Or.inl ⟨14, zf_zm_125_10 env, zpc_c⟩,
  Or.inl ⟨17, zf_zm_125_11 env, zpc_c⟩,
  Or.inl ⟨18, zf_zm_125_12 env, zpc_c⟩,
  Or.inl ⟨21, zf_zm_125_13 env, zpc_c⟩,
  Or.inl ⟨22, zf_zm_125_14 env, zpc_c⟩,
  Or.inl ⟨23, zf_zm_125_15 env, zpc_c⟩,
  Or.inl ⟨24, zf_zm_125_16 env, zpc_c⟩,
  Or.inl ⟨25, zf_zm_125_17 env, zpc_c⟩,
  Or.inl ⟨27, zf_zm_125_18 env, zpc_c⟩,
  Or.inl ⟨30, zf_zm_125_19 env, zpc_c⟩,
  Or.inl ⟨31, zf_zm_125_20 env, zpc_c⟩,
  Or.inl ⟨34, zf_zm_125_21 env, zpc_c⟩,
  Or.inl ⟨35, zf_zm_125_22 env, zpc_c⟩,
  Or.inl ⟨36, zf_zm_125_23 env, zpc_c⟩,
  Or.inl ⟨37, zf_zm_125_24 env, zpc_c⟩,
  Or.inl ⟨38, zf_zm_125_25 env, zpc_c⟩,
  Or.inl ⟨39, zf_zm_125_26 env, zpc_c⟩,
  Or.inl ⟨41, zf_zm_125_27 env, zpc_c⟩,
  Or.inl ⟨42, zf_zm_125_28 env, zpc_c⟩,
  Or.inl ⟨43, zf_zm_125_29 env, zpc_c⟩,
  Or.inl ⟨44, zf_zm_125_30 env, zpc_c⟩,
  Or.inl ⟨45, zf_zm_125_31 env, zpc_c⟩,
  Or.inr (Or.inl (zf_zm_125_32 env)), trivial⟩
