/-! FACTS (by program) -/
theorem zf_zlp_0 (env : List (Nat × Nat)) : zI9 172 zY_172 zlp env (0, 17, 0, 0, 8) 3 := zi_new (i := 8) (N := 8) (C := "TransportPair") (T := zF_0) (ds := [2, 2, 2, 0, 2, 0, 0, 0]) (by decide +kernel : decode zY_172.2.1 0 = .ok (.new 8, 3)) rfl zuw_0 zFt_0 (zw_T zwd_925) (zw_T zwd_926) (zw_T zwd_124) rfl rfl rfl zFd_0
theorem zf_zlp_1 (env : List (Nat × Nat)) : zI9 172 zY_172 zlp env (3, 13, 0, 0, 0) 4 := zi_dup (by decide +kernel : decode zY_172.2.1 3 = .ok (.dup, 1))
theorem zf_zlp_2 (env : List (Nat × Nat)) : zC9 172 zlp env (4, 66, 7, 67, 1) := zi_call (by decide +kernel) (zr_I (i := 112) (n := 0) zX_ok rfl (zgood_7) (by decide +kernel) (zw_T zwd_124) (zw_T zwd_927) rfl (zw_T zwd_928) rfl ⟨by decide +kernel, by decide +kernel, by decide +kernel⟩ rfl (by decide +kernel : decode (zYf 172).2.1 4 = .ok (.invokespecial 112, 3)))
theorem zf_zlp_3 (env : List (Nat × Nat)) : zI9 172 zY_172 zlp env (7, 65, 1, 0, 0) 8 := zi_astore_n (by decide +kernel : decode zY_172.2.1 7 = .ok (.astore_n 1, 1)) rfl (by decide)
theorem zf_zlp_4 (env : List (Nat × Nat)) : zI9 172 zY_172 zlp env (8, 17, 1, 0, 23) 11 := zi_new (i := 113) (N := 23) (C := "TransportPairModel") (T := zF_1) (ds := [0, 2, 0, 2, 0, 2, 2, 2, 0, 0, 2, 2, 2, 2, 2, 2, 2, 2, 2, 2, 2, 0, 2]) (by decide +kernel : decode zY_172.2.1 8 = .ok (.new 113, 3)) rfl zuw_1 zFt_1 (zw_T zwd_929) (zw_T zwd_930) (zw_T zwd_250) rfl rfl rfl zFd_1
theorem zf_zlp_5 (env : List (Nat × Nat)) : zI9 172 zY_172 zlp env (11, 13, 0, 0, 0) 12 := zi_dup (by decide +kernel : decode zY_172.2.1 11 = .ok (.dup, 1))
theorem zf_zlp_6 (env : List (Nat × Nat)) : zC9 172 zlp env (12, 66, 41, 67, 1) := zi_call (by decide +kernel) (zr_I (i := 115) (n := 0) zX_ok rfl (zgood_41) (by decide +kernel) (zw_T zwd_250) (zw_T zwd_931) rfl (zw_T zwd_932) rfl ⟨by decide +kernel, by decide +kernel, by decide +kernel⟩ rfl (by decide +kernel : decode (zYf 172).2.1 12 = .ok (.invokespecial 115, 3)))
theorem zf_zlp_7 (env : List (Nat × Nat)) : zI9 172 zY_172 zlp env (15, 65, 2, 0, 0) 16 := zi_astore_n (by decide +kernel : decode zY_172.2.1 15 = .ok (.astore_n 2, 1)) rfl (by decide)
theorem zf_zlp_8 (env : List (Nat × Nat)) : zI9 172 zY_172 zlp env (16, 2, 1, 0, 0) 17 := zi_iconst (by decide +kernel : decode zY_172.2.1 16 = .ok (.iconst 1, 1)) (by decide +kernel)
theorem zf_zlp_9 (env : List (Nat × Nat)) : zI9 172 zY_172 zlp env (17, 12, 1, 3, 0) 19 := zi_newL (by decide +kernel : decode zY_172.2.1 17 = .ok (.newarray .long, 2)) (zw_T zwd_13) rfl rfl
theorem zf_zlp_10 (env : List (Nat × Nat)) : zI9 172 zY_172 zlp env (19, 65, 3, 0, 0) 20 := zi_astore_n (by decide +kernel : decode zY_172.2.1 19 = .ok (.astore_n 3, 1)) rfl (by decide)
theorem zf_zlp_11 (env : List (Nat × Nat)) : zI9 172 zY_172 zlp env (20, 2, 0, 0, 0) 21 := zi_iconst (by decide +kernel : decode zY_172.2.1 20 = .ok (.iconst 0, 1)) (by decide +kernel)
theorem zf_zlp_12 (env : List (Nat × Nat)) : zI9 172 zY_172 zlp env (21, 10, 4, 0, 0) 23 := zi_istore (by decide +kernel : decode zY_172.2.1 21 = .ok (.istore 4, 2)) (by decide)
theorem zf_zlp_13 (env : List (Nat × Nat)) : zI9 172 zY_172 zlp env (23, 78, 0, 0, 0) 23 := zi_stop
set_option maxRecDepth 100000 in
theorem zc_zlp (env : List (Nat × Nat)) : zcode zX (z_QF zEX zcl zft) (z_zm zEX zX zWL zcl zft zYf) zYf zW zET zcl zft (zGv env) 172 zlp zlp.1 := ⟨Or.inl ⟨3, zf_zlp_0 env, zpc_c⟩,
  Or.inl ⟨4, zf_zlp_1 env, zpc_c⟩,
  Or.inr (Or.inr (Or.inl ⟨zf_zlp_2 env, zpc_c⟩)),
  Or.inl ⟨8, zf_zlp_3 env, zpc_c⟩,
  Or.inl ⟨11, zf_zlp_4 env, zpc_c⟩,
  Or.inl ⟨12, zf_zlp_5 env, zpc_c⟩,
  Or.inr (Or.inr (Or.inl ⟨zf_zlp_6 env, zpc_c⟩)),
  Or.inl ⟨16, zf_zlp_7 env, zpc_c⟩,
  Or.inl ⟨17, zf_zlp_8 env, zpc_c⟩,
  Or.inl ⟨19, zf_zlp_9 env, zpc_c⟩,
  Or.inl ⟨20, zf_zlp_10 env, zpc_c⟩,
  Or.inl ⟨21, zf_zlp_11 env, zpc_c⟩,
  Or.inl ⟨23, zf_zlp_12 env, zpc_c⟩,
  Or.inl ⟨23, zf_zlp_13 env, zpc_n⟩, trivial⟩
theorem zf_zm_172_0 (env : List (Nat × Nat)) : zI9 172 zY_172 zm_172 env (23, 63, 4, 0, 0) 25 := zi_iload (by decide +kernel : decode zY_172.2.1 23 = .ok (.iload 4, 2))
theorem zf_zm_172_1 (env : List (Nat × Nat)) : zI9 172 zY_172 zm_172 env (25, 0, 0, 0, 0) 26 := zi_aload_n (by decide +kernel : decode zY_172.2.1 25 = .ok (.aload_n 0, 1)) rfl
theorem zf_zm_172_2 (env : List (Nat × Nat)) : zI9 172 zY_172 zm_172 env (26, 47, 0, 0, 0) 27 := zi_alen (zslen_ok (by decide +kernel : decode zY_172.2.1 26 = .ok (.arraylength, 1))) (by decide +kernel : decode zY_172.2.1 26 = .ok (.arraylength, 1))
theorem zf_zm_172_3 (env : List (Nat × Nat)) : zI9 172 zY_172 zm_172 env (27, 2, 6, 0, 0) 29 := zi_bipush (by decide +kernel : decode zY_172.2.1 27 = .ok (.bipush 6, 2)) (by decide +kernel)
theorem zf_zm_172_4 (env : List (Nat × Nat)) : zI9 172 zY_172 zm_172 env (29, 37, 0, 0, 0) 30 := zi_isub (by decide +kernel : decode zY_172.2.1 29 = .ok (.isub, 1))
theorem zf_zm_172_5 (env : List (Nat × Nat)) : zI9 172 zY_172 zm_172 env (30, 31, 1147, 0, 0) 33 := zi_icmp_gt (off := 2004) (t := 2034) (by decide +kernel : decode zY_172.2.1 30 = .ok (.if_icmp .gt 2004, 3)) (by decide) (by decide +kernel)
theorem zf_zm_172_6 (env : List (Nat × Nat)) : zI9 172 zY_172 zm_172 env (33, 0, 0, 0, 0) 34 := zi_aload_n (by decide +kernel : decode zY_172.2.1 33 = .ok (.aload_n 0, 1)) rfl
theorem zf_zm_172_7 (env : List (Nat × Nat)) : zI9 172 zY_172 zm_172 env (34, 63, 4, 0, 0) 36 := zi_iload (by decide +kernel : decode zY_172.2.1 34 = .ok (.iload 4, 2))
theorem zf_zm_172_8 (env : List (Nat × Nat)) : zI9 172 zY_172 zm_172 env (36, 8, 0, 0, 0) 37 := zi_iald (zscr_ok (by decide +kernel : decode zY_172.2.1 36 = .ok (.iaload, 1))) (by decide +kernel : decode zY_172.2.1 36 = .ok (.iaload, 1))
theorem zf_zm_172_9 (env : List (Nat × Nat)) : zI9 172 zY_172 zm_172 env (37, 2, 31, 0, 0) 39 := zi_bipush (by decide +kernel : decode zY_172.2.1 37 = .ok (.bipush 31, 2)) (by decide +kernel)
theorem zf_zm_172_10 (env : List (Nat × Nat)) : zI9 172 zY_172 zm_172 env (39, 51, 0, 0, 0) 40 := zi_iand (by decide +kernel : decode zY_172.2.1 39 = .ok (.iand, 1))
theorem zf_zm_172_11 (env : List (Nat × Nat)) : zI9 172 zY_172 zm_172 env (40, 40, 0, 0, 0) 168 := zi_switch (df := 1145) (lo := 0) (tg := [12, 85, 118, 139, 160, 201, 212, 263, 306, 351, 406, 461, 514, 540, 585, 606, 642, 678, 714, 770, 791, 824, 867, 913, 956, 999, 1051, 1103]) (by decide +kernel : decode zY_172.2.1 40 = .ok (.tableswitch 1988 0 27 #[128, 232, 288, 324, 360, 420, 444, 528, 596, 671, 758, 845, 925, 980, 1055, 1091, 1159, 1227, 1295, 1387, 1423, 1479, 1547, 1627, 1695, 1763, 1842, 1921], 128)) rfl (by decide) (by decide +kernel) (by decide +kernel)
theorem zf_zm_172_12 (env : List (Nat × Nat)) : zI9 172 zY_172 zm_172 env (168, 0, 1, 0, 0) 169 := zi_aload_n (by decide +kernel : decode zY_172.2.1 168 = .ok (.aload_n 1, 1)) rfl
theorem zf_zm_172_13 (env : List (Nat × Nat)) : zI9 172 zY_172 zm_172 env (169, 0, 0, 0, 0) 170 := zi_aload_n (by decide +kernel : decode zY_172.2.1 169 = .ok (.aload_n 0, 1)) rfl
theorem zf_zm_172_14 (env : List (Nat × Nat)) : zI9 172 zY_172 zm_172 env (170, 63, 4, 0, 0) 172 := zi_iload (by decide +kernel : decode zY_172.2.1 170 = .ok (.iload 4, 2))
theorem zf_zm_172_15 (env : List (Nat × Nat)) : zI9 172 zY_172 zm_172 env (172, 2, 1, 0, 0) 173 := zi_iconst (by decide +kernel : decode zY_172.2.1 172 = .ok (.iconst 1, 1)) (by decide +kernel)
theorem zf_zm_172_16 (env : List (Nat × Nat)) : zI9 172 zY_172 zm_172 env (173, 9, 0, 0, 0) 174 := zi_iadd (by decide +kernel : decode zY_172.2.1 173 = .ok (.iadd, 1))
theorem zf_zm_172_17 (env : List (Nat × Nat)) : zI9 172 zY_172 zm_172 env (174, 8, 0, 0, 0) 175 := zi_iald (zscr_ok (by decide +kernel : decode zY_172.2.1 174 = .ok (.iaload, 1))) (by decide +kernel : decode zY_172.2.1 174 = .ok (.iaload, 1))
theorem zf_zm_172_18 (env : List (Nat × Nat)) : zI9 172 zY_172 zm_172 env (175, 0, 0, 0, 0) 176 := zi_aload_n (by decide +kernel : decode zY_172.2.1 175 = .ok (.aload_n 0, 1)) rfl
theorem zf_zm_172_19 (env : List (Nat × Nat)) : zI9 172 zY_172 zm_172 env (176, 63, 4, 0, 0) 178 := zi_iload (by decide +kernel : decode zY_172.2.1 176 = .ok (.iload 4, 2))
theorem zf_zm_172_20 (env : List (Nat × Nat)) : zI9 172 zY_172 zm_172 env (178, 2, 2, 0, 0) 179 := zi_iconst (by decide +kernel : decode zY_172.2.1 178 = .ok (.iconst 2, 1)) (by decide +kernel)
theorem zf_zm_172_21 (env : List (Nat × Nat)) : zI9 172 zY_172 zm_172 env (179, 9, 0, 0, 0) 180 := zi_iadd (by decide +kernel : decode zY_172.2.1 179 = .ok (.iadd, 1))
theorem zf_zm_172_22 (env : List (Nat × Nat)) : zI9 172 zY_172 zm_172 env (180, 8, 0, 0, 0) 181 := zi_iald (zscr_ok (by decide +kernel : decode zY_172.2.1 180 = .ok (.iaload, 1))) (by decide +kernel : decode zY_172.2.1 180 = .ok (.iaload, 1))
theorem zf_zm_172_23 (env : List (Nat × Nat)) : zI9 172 zY_172 zm_172 env (181, 0, 0, 0, 0) 182 := zi_aload_n (by decide +kernel : decode zY_172.2.1 181 = .ok (.aload_n 0, 1)) rfl
theorem zf_zm_172_24 (env : List (Nat × Nat)) : zI9 172 zY_172 zm_172 env (182, 63, 4, 0, 0) 184 := zi_iload (by decide +kernel : decode zY_172.2.1 182 = .ok (.iload 4, 2))
theorem zf_zm_172_25 (env : List (Nat × Nat)) : zI9 172 zY_172 zm_172 env (184, 2, 3, 0, 0) 185 := zi_iconst (by decide +kernel : decode zY_172.2.1 184 = .ok (.iconst 3, 1)) (by decide +kernel)
theorem zf_zm_172_26 (env : List (Nat × Nat)) : zI9 172 zY_172 zm_172 env (185, 9, 0, 0, 0) 186 := zi_iadd (by decide +kernel : decode zY_172.2.1 185 = .ok (.iadd, 1))
theorem zf_zm_172_27 (env : List (Nat × Nat)) : zI9 172 zY_172 zm_172 env (186, 8, 0, 0, 0) 187 := zi_iald (zscr_ok (by decide +kernel : decode zY_172.2.1 186 = .ok (.iaload, 1))) (by decide +kernel : decode zY_172.2.1 186 = .ok (.iaload, 1))
theorem zf_zm_172_28 (env : List (Nat × Nat)) : zI9 172 zY_172 zm_172 env (187, 0, 0, 0, 0) 188 := zi_aload_n (by decide +kernel : decode zY_172.2.1 187 = .ok (.aload_n 0, 1)) rfl
theorem zf_zm_172_29 (env : List (Nat × Nat)) : zI9 172 zY_172 zm_172 env (188, 63, 4, 0, 0) 190 := zi_iload (by decide +kernel : decode zY_172.2.1 188 = .ok (.iload 4, 2))
theorem zf_zm_172_30 (env : List (Nat × Nat)) : zI9 172 zY_172 zm_172 env (190, 2, 4, 0, 0) 191 := zi_iconst (by decide +kernel : decode zY_172.2.1 190 = .ok (.iconst 4, 1)) (by decide +kernel)
theorem zf_zm_172_31 (env : List (Nat × Nat)) : zI9 172 zY_172 zm_172 env (191, 9, 0, 0, 0) 192 := zi_iadd (by decide +kernel : decode zY_172.2.1 191 = .ok (.iadd, 1))
theorem zf_zm_172_32 (env : List (Nat × Nat)) : zI9 172 zY_172 zm_172 env (192, 8, 0, 0, 0) 193 := zi_iald (zscr_ok (by decide +kernel : decode zY_172.2.1 192 = .ok (.iaload, 1))) (by decide +kernel : decode zY_172.2.1 192 = .ok (.iaload, 1))
theorem zf_zm_172_33 (env : List (Nat × Nat)) : zI9 172 zY_172 zm_172 env (193, 0, 0, 0, 0) 194 := zi_aload_n (by decide +kernel : decode zY_172.2.1 193 = .ok (.aload_n 0, 1)) rfl
theorem zf_zm_172_34 (env : List (Nat × Nat)) : zI9 172 zY_172 zm_172 env (194, 63, 4, 0, 0) 196 := zi_iload (by decide +kernel : decode zY_172.2.1 194 = .ok (.iload 4, 2))
theorem zf_zm_172_35 (env : List (Nat × Nat)) : zI9 172 zY_172 zm_172 env (196, 2, 5, 0, 0) 197 := zi_iconst (by decide +kernel : decode zY_172.2.1 196 = .ok (.iconst 5, 1)) (by decide +kernel)
theorem zf_zm_172_36 (env : List (Nat × Nat)) : zI9 172 zY_172 zm_172 env (197, 9, 0, 0, 0) 198 := zi_iadd (by decide +kernel : decode zY_172.2.1 197 = .ok (.iadd, 1))
theorem zf_zm_172_37 (env : List (Nat × Nat)) : zI9 172 zY_172 zm_172 env (198, 8, 0, 0, 0) 199 := zi_iald (zscr_ok (by decide +kernel : decode zY_172.2.1 198 = .ok (.iaload, 1))) (by decide +kernel : decode zY_172.2.1 198 = .ok (.iaload, 1))
theorem zf_zm_172_38 (env : List (Nat × Nat)) : zI9 172 zY_172 zm_172 env (199, 0, 3, 0, 0) 200 := zi_aload_n (by decide +kernel : decode zY_172.2.1 199 = .ok (.aload_n 3, 1)) rfl
theorem zf_zm_172_39 (env : List (Nat × Nat)) : zC9 172 zm_172 env (200, 66, 142, 456, 0) := zi_call (by decide +kernel) (zr_SW (i := 116) zX_ok rfl (zgood_142) (by decide +kernel) (zw_T zwd_781) (zw_T zwd_782) (zw_T zwd_783) ⟨by decide +kernel, by decide +kernel, by decide +kernel⟩ (by decide +kernel : decode (zYf 172).2.1 200 = .ok (.invokestatic 116, 3)))
theorem zf_zm_172_40 (env : List (Nat × Nat)) : zI9 172 zY_172 zm_172 env (203, 10, 5, 0, 0) 205 := zi_istore (by decide +kernel : decode zY_172.2.1 203 = .ok (.istore 5, 2)) (by decide)
theorem zf_zm_172_41 (env : List (Nat × Nat)) : zI9 172 zY_172 zm_172 env (205, 0, 2, 0, 0) 206 := zi_aload_n (by decide +kernel : decode zY_172.2.1 205 = .ok (.aload_n 2, 1)) rfl
theorem zf_zm_172_42 (env : List (Nat × Nat)) : zI9 172 zY_172 zm_172 env (206, 0, 0, 0, 0) 207 := zi_aload_n (by decide +kernel : decode zY_172.2.1 206 = .ok (.aload_n 0, 1)) rfl
theorem zf_zm_172_43 (env : List (Nat × Nat)) : zI9 172 zY_172 zm_172 env (207, 63, 4, 0, 0) 209 := zi_iload (by decide +kernel : decode zY_172.2.1 207 = .ok (.iload 4, 2))
theorem zf_zm_172_44 (env : List (Nat × Nat)) : zI9 172 zY_172 zm_172 env (209, 2, 1, 0, 0) 210 := zi_iconst (by decide +kernel : decode zY_172.2.1 209 = .ok (.iconst 1, 1)) (by decide +kernel)
theorem zf_zm_172_45 (env : List (Nat × Nat)) : zI9 172 zY_172 zm_172 env (210, 9, 0, 0, 0) 211 := zi_iadd (by decide +kernel : decode zY_172.2.1 210 = .ok (.iadd, 1))
theorem zf_zm_172_46 (env : List (Nat × Nat)) : zI9 172 zY_172 zm_172 env (211, 8, 0, 0, 0) 212 := zi_iald (zscr_ok (by decide +kernel : decode zY_172.2.1 211 = .ok (.iaload, 1))) (by decide +kernel : decode zY_172.2.1 211 = .ok (.iaload, 1))
theorem zf_zm_172_47 (env : List (Nat × Nat)) : zI9 172 zY_172 zm_172 env (212, 0, 0, 0, 0) 213 := zi_aload_n (by decide +kernel : decode zY_172.2.1 212 = .ok (.aload_n 0, 1)) rfl
theorem zf_zm_172_48 (env : List (Nat × Nat)) : zI9 172 zY_172 zm_172 env (213, 63, 4, 0, 0) 215 := zi_iload (by decide +kernel : decode zY_172.2.1 213 = .ok (.iload 4, 2))
theorem zf_zm_172_49 (env : List (Nat × Nat)) : zI9 172 zY_172 zm_172 env (215, 2, 2, 0, 0) 216 := zi_iconst (by decide +kernel : decode zY_172.2.1 215 = .ok (.iconst 2, 1)) (by decide +kernel)
theorem zf_zm_172_50 (env : List (Nat × Nat)) : zI9 172 zY_172 zm_172 env (216, 9, 0, 0, 0) 217 := zi_iadd (by decide +kernel : decode zY_172.2.1 216 = .ok (.iadd, 1))
theorem zf_zm_172_51 (env : List (Nat × Nat)) : zI9 172 zY_172 zm_172 env (217, 8, 0, 0, 0) 218 := zi_iald (zscr_ok (by decide +kernel : decode zY_172.2.1 217 = .ok (.iaload, 1))) (by decide +kernel : decode zY_172.2.1 217 = .ok (.iaload, 1))
theorem zf_zm_172_52 (env : List (Nat × Nat)) : zI9 172 zY_172 zm_172 env (218, 0, 0, 0, 0) 219 := zi_aload_n (by decide +kernel : decode zY_172.2.1 218 = .ok (.aload_n 0, 1)) rfl
theorem zf_zm_172_53 (env : List (Nat × Nat)) : zI9 172 zY_172 zm_172 env (219, 63, 4, 0, 0) 221 := zi_iload (by decide +kernel : decode zY_172.2.1 219 = .ok (.iload 4, 2))
theorem zf_zm_172_54 (env : List (Nat × Nat)) : zI9 172 zY_172 zm_172 env (221, 2, 3, 0, 0) 222 := zi_iconst (by decide +kernel : decode zY_172.2.1 221 = .ok (.iconst 3, 1)) (by decide +kernel)
theorem zf_zm_172_55 (env : List (Nat × Nat)) : zI9 172 zY_172 zm_172 env (222, 9, 0, 0, 0) 223 := zi_iadd (by decide +kernel : decode zY_172.2.1 222 = .ok (.iadd, 1))
theorem zf_zm_172_56 (env : List (Nat × Nat)) : zI9 172 zY_172 zm_172 env (223, 8, 0, 0, 0) 224 := zi_iald (zscr_ok (by decide +kernel : decode zY_172.2.1 223 = .ok (.iaload, 1))) (by decide +kernel : decode zY_172.2.1 223 = .ok (.iaload, 1))
theorem zf_zm_172_57 (env : List (Nat × Nat)) : zI9 172 zY_172 zm_172 env (224, 0, 0, 0, 0) 225 := zi_aload_n (by decide +kernel : decode zY_172.2.1 224 = .ok (.aload_n 0, 1)) rfl
theorem zf_zm_172_58 (env : List (Nat × Nat)) : zI9 172 zY_172 zm_172 env (225, 63, 4, 0, 0) 227 := zi_iload (by decide +kernel : decode zY_172.2.1 225 = .ok (.iload 4, 2))
theorem zf_zm_172_59 (env : List (Nat × Nat)) : zI9 172 zY_172 zm_172 env (227, 2, 4, 0, 0) 228 := zi_iconst (by decide +kernel : decode zY_172.2.1 227 = .ok (.iconst 4, 1)) (by decide +kernel)
theorem zf_zm_172_60 (env : List (Nat × Nat)) : zI9 172 zY_172 zm_172 env (228, 9, 0, 0, 0) 229 := zi_iadd (by decide +kernel : decode zY_172.2.1 228 = .ok (.iadd, 1))
theorem zf_zm_172_61 (env : List (Nat × Nat)) : zI9 172 zY_172 zm_172 env (229, 8, 0, 0, 0) 230 := zi_iald (zscr_ok (by decide +kernel : decode zY_172.2.1 229 = .ok (.iaload, 1))) (by decide +kernel : decode zY_172.2.1 229 = .ok (.iaload, 1))
theorem zf_zm_172_62 (env : List (Nat × Nat)) : zI9 172 zY_172 zm_172 env (230, 0, 0, 0, 0) 231 := zi_aload_n (by decide +kernel : decode zY_172.2.1 230 = .ok (.aload_n 0, 1)) rfl
theorem zf_zm_172_63 (env : List (Nat × Nat)) : zI9 172 zY_172 zm_172 env (231, 63, 4, 0, 0) 233 := zi_iload (by decide +kernel : decode zY_172.2.1 231 = .ok (.iload 4, 2))
theorem zf_zm_172_64 (env : List (Nat × Nat)) : zI9 172 zY_172 zm_172 env (233, 2, 5, 0, 0) 234 := zi_iconst (by decide +kernel : decode zY_172.2.1 233 = .ok (.iconst 5, 1)) (by decide +kernel)
theorem zf_zm_172_65 (env : List (Nat × Nat)) : zI9 172 zY_172 zm_172 env (234, 9, 0, 0, 0) 235 := zi_iadd (by decide +kernel : decode zY_172.2.1 234 = .ok (.iadd, 1))
theorem zf_zm_172_66 (env : List (Nat × Nat)) : zI9 172 zY_172 zm_172 env (235, 8, 0, 0, 0) 236 := zi_iald (zscr_ok (by decide +kernel : decode zY_172.2.1 235 = .ok (.iaload, 1))) (by decide +kernel : decode zY_172.2.1 235 = .ok (.iaload, 1))
theorem zf_zm_172_67 (env : List (Nat × Nat)) : zC9 172 zm_172 env (236, 66, 46, 392, 3) := zi_call (by decide +kernel) (zr_V (i := 121) (n := 5) (q := ("TransportPairModel", zF_1, 23)) zX_ok rfl (zgood_46) (by decide +kernel) (zw_T zwd_250) (zw_T zwd_784) (zw_T zwd_785) rfl (zw_T zwd_786) ⟨by decide +kernel, by decide +kernel, by decide +kernel⟩ rfl (by decide +kernel : decode (zYf 172).2.1 236 = .ok (.invokevirtual 121, 3)))
theorem zf_zm_172_68 (env : List (Nat × Nat)) : zI9 172 zY_172 zm_172 env (239, 10, 6, 0, 0) 241 := zi_istore (by decide +kernel : decode zY_172.2.1 239 = .ok (.istore 6, 2)) (by decide)
theorem zf_zm_172_69 (env : List (Nat × Nat)) : zI9 172 zY_172 zm_172 env (241, 0, 2, 0, 0) 242 := zi_aload_n (by decide +kernel : decode zY_172.2.1 241 = .ok (.aload_n 2, 1)) rfl
theorem zf_zm_172_70 (env : List (Nat × Nat)) : zC9 172 zm_172 env (242, 66, 43, 65, 3) := zi_call (by decide +kernel) (zr_V (i := 122) (n := 0) (q := ("TransportPairModel", zF_1, 23)) zX_ok rfl (zgood_43) (by decide +kernel) (zw_T zwd_250) (zw_T zwd_787) (zw_T zwd_788) rfl (zw_T zwd_789) ⟨by decide +kernel, by decide +kernel, by decide +kernel⟩ rfl (by decide +kernel : decode (zYf 172).2.1 242 = .ok (.invokevirtual 122, 3)))
theorem zf_zm_172_71 (env : List (Nat × Nat)) : zI9 172 zY_172 zm_172 env (245, 63, 5, 0, 0) 247 := zi_iload (by decide +kernel : decode zY_172.2.1 245 = .ok (.iload 5, 2))
theorem zf_zm_172_72 (env : List (Nat × Nat)) : zI9 172 zY_172 zm_172 env (247, 20, 74, 0, 0) 250 := zi_icmp_eq (off := 5) (t := 252) (by decide +kernel : decode zY_172.2.1 247 = .ok (.if_icmp .eq 5, 3)) (by decide) (by decide +kernel)
theorem zf_zm_172_73 (env : List (Nat × Nat)) : zI9 172 zY_172 zm_172 env (250, 99, 0, 0, 0) 252 := zi_none
theorem zf_zm_172_74 (env : List (Nat × Nat)) : zI9 172 zY_172 zm_172 env (252, 63, 5, 0, 0) 254 := zi_iload (by decide +kernel : decode zY_172.2.1 252 = .ok (.iload 5, 2))
theorem zf_zm_172_75 (env : List (Nat × Nat)) : zI9 172 zY_172 zm_172 env (254, 6, 84, 0, 0) 257 := zi_if_ne (off := 15) (t := 269) (by decide +kernel : decode zY_172.2.1 254 = .ok (.ifCond .ne 15, 3)) (by decide) (by decide +kernel)
theorem zf_zm_172_76 (env : List (Nat × Nat)) : zI9 172 zY_172 zm_172 env (257, 0, 3, 0, 0) 258 := zi_aload_n (by decide +kernel : decode zY_172.2.1 257 = .ok (.aload_n 3, 1)) rfl
theorem zf_zm_172_77 (env : List (Nat × Nat)) : zI9 172 zY_172 zm_172 env (258, 2, 0, 0, 0) 259 := zi_iconst (by decide +kernel : decode zY_172.2.1 258 = .ok (.iconst 0, 1)) (by decide +kernel)
theorem zf_zm_172_78 (env : List (Nat × Nat)) : zI9 172 zY_172 zm_172 env (259, 26, 0, 0, 0) 260 := zi_lald (by decide +kernel : decode zY_172.2.1 259 = .ok (.laload, 1))
theorem zf_zm_172_79 (env : List (Nat × Nat)) : zI9 172 zY_172 zm_172 env (260, 63, 6, 0, 0) 262 := zi_iload (by decide +kernel : decode zY_172.2.1 260 = .ok (.iload 6, 2))
theorem zf_zm_172_80 (env : List (Nat × Nat)) : zI9 172 zY_172 zm_172 env (262, 16, 0, 0, 0) 263 := zi_i2l (by decide +kernel : decode zY_172.2.1 262 = .ok (.i2l, 1))
theorem zf_zm_172_81 (env : List (Nat × Nat)) : zI9 172 zY_172 zm_172 env (263, 34, 0, 0, 0) 264 := zi_lcmp (by decide +kernel : decode zY_172.2.1 263 = .ok (.lcmp, 1))
theorem zf_zm_172_82 (env : List (Nat × Nat)) : zI9 172 zY_172 zm_172 env (264, 5, 84, 0, 0) 267 := zi_if_eq (off := 5) (t := 269) (by decide +kernel : decode zY_172.2.1 264 = .ok (.ifCond .eq 5, 3)) (by decide) (by decide +kernel)
theorem zf_zm_172_83 (env : List (Nat × Nat)) : zI9 172 zY_172 zm_172 env (267, 99, 0, 0, 0) 269 := zi_none
theorem zf_zm_172_84 (env : List (Nat × Nat)) : zI9 172 zY_172 zm_172 env (269, 7, 1145, 0, 0) 272 := zi_goto (off := 1759) (t := 2028) (by decide +kernel : decode zY_172.2.1 269 = .ok (.goto 1759, 3)) (by decide) (by decide +kernel)
theorem zf_zm_172_85 (env : List (Nat × Nat)) : zI9 172 zY_172 zm_172 env (272, 0, 1, 0, 0) 273 := zi_aload_n (by decide +kernel : decode zY_172.2.1 272 = .ok (.aload_n 1, 1)) rfl
theorem zf_zm_172_86 (env : List (Nat × Nat)) : zI9 172 zY_172 zm_172 env (273, 0, 0, 0, 0) 274 := zi_aload_n (by decide +kernel : decode zY_172.2.1 273 = .ok (.aload_n 0, 1)) rfl
theorem zf_zm_172_87 (env : List (Nat × Nat)) : zI9 172 zY_172 zm_172 env (274, 63, 4, 0, 0) 276 := zi_iload (by decide +kernel : decode zY_172.2.1 274 = .ok (.iload 4, 2))
theorem zf_zm_172_88 (env : List (Nat × Nat)) : zI9 172 zY_172 zm_172 env (276, 2, 1, 0, 0) 277 := zi_iconst (by decide +kernel : decode zY_172.2.1 276 = .ok (.iconst 1, 1)) (by decide +kernel)
theorem zf_zm_172_89 (env : List (Nat × Nat)) : zI9 172 zY_172 zm_172 env (277, 9, 0, 0, 0) 278 := zi_iadd (by decide +kernel : decode zY_172.2.1 277 = .ok (.iadd, 1))
theorem zf_zm_172_90 (env : List (Nat × Nat)) : zI9 172 zY_172 zm_172 env (278, 8, 0, 0, 0) 279 := zi_iald (zscr_ok (by decide +kernel : decode zY_172.2.1 278 = .ok (.iaload, 1))) (by decide +kernel : decode zY_172.2.1 278 = .ok (.iaload, 1))
theorem zf_zm_172_91 (env : List (Nat × Nat)) : zI9 172 zY_172 zm_172 env (279, 0, 3, 0, 0) 280 := zi_aload_n (by decide +kernel : decode zY_172.2.1 279 = .ok (.aload_n 3, 1)) rfl
theorem zf_zm_172_92 (env : List (Nat × Nat)) : zC9 172 zm_172 env (280, 66, 143, 196, 0) := zi_call (by decide +kernel) (zr_SW (i := 126) zX_ok rfl (zgood_143) (by decide +kernel) (zw_T zwd_781) (zw_T zwd_790) (zw_T zwd_791) ⟨by decide +kernel, by decide +kernel, by decide +kernel⟩ (by decide +kernel : decode (zYf 172).2.1 280 = .ok (.invokestatic 126, 3)))
theorem zf_zm_172_93 (env : List (Nat × Nat)) : zI9 172 zY_172 zm_172 env (283, 10, 5, 0, 0) 285 := zi_istore (by decide +kernel : decode zY_172.2.1 283 = .ok (.istore 5, 2)) (by decide)
theorem zf_zm_172_94 (env : List (Nat × Nat)) : zI9 172 zY_172 zm_172 env (285, 0, 2, 0, 0) 286 := zi_aload_n (by decide +kernel : decode zY_172.2.1 285 = .ok (.aload_n 2, 1)) rfl
theorem zf_zm_172_95 (env : List (Nat × Nat)) : zI9 172 zY_172 zm_172 env (286, 0, 0, 0, 0) 287 := zi_aload_n (by decide +kernel : decode zY_172.2.1 286 = .ok (.aload_n 0, 1)) rfl
theorem zf_zm_172_96 (env : List (Nat × Nat)) : zI9 172 zY_172 zm_172 env (287, 63, 4, 0, 0) 289 := zi_iload (by decide +kernel : decode zY_172.2.1 287 = .ok (.iload 4, 2))
theorem zf_zm_172_97 (env : List (Nat × Nat)) : zI9 172 zY_172 zm_172 env (289, 2, 1, 0, 0) 290 := zi_iconst (by decide +kernel : decode zY_172.2.1 289 = .ok (.iconst 1, 1)) (by decide +kernel)
theorem zf_zm_172_98 (env : List (Nat × Nat)) : zI9 172 zY_172 zm_172 env (290, 9, 0, 0, 0) 291 := zi_iadd (by decide +kernel : decode zY_172.2.1 290 = .ok (.iadd, 1))
theorem zf_zm_172_99 (env : List (Nat × Nat)) : zI9 172 zY_172 zm_172 env (291, 8, 0, 0, 0) 292 := zi_iald (zscr_ok (by decide +kernel : decode zY_172.2.1 291 = .ok (.iaload, 1))) (by decide +kernel : decode zY_172.2.1 291 = .ok (.iaload, 1))
theorem zf_zm_172_100 (env : List (Nat × Nat)) : zC9 172 zm_172 env (292, 66, 47, 131, 3) := zi_call (by decide +kernel) (zr_V (i := 129) (n := 1) (q := ("TransportPairModel", zF_1, 23)) zX_ok rfl (zgood_47) (by decide +kernel) (zw_T zwd_250) (zw_T zwd_792) (zw_T zwd_793) rfl (zw_T zwd_794) ⟨by decide +kernel, by decide +kernel, by decide +kernel⟩ rfl (by decide +kernel : decode (zYf 172).2.1 292 = .ok (.invokevirtual 129, 3)))
theorem zf_zm_172_101 (env : List (Nat × Nat)) : zI9 172 zY_172 zm_172 env (295, 10, 6, 0, 0) 297 := zi_istore (by decide +kernel : decode zY_172.2.1 295 = .ok (.istore 6, 2)) (by decide)
theorem zf_zm_172_102 (env : List (Nat × Nat)) : zI9 172 zY_172 zm_172 env (297, 0, 2, 0, 0) 298 := zi_aload_n (by decide +kernel : decode zY_172.2.1 297 = .ok (.aload_n 2, 1)) rfl
theorem zf_zm_172_103 (env : List (Nat × Nat)) : zC9 172 zm_172 env (298, 66, 43, 65, 3) := zi_call (by decide +kernel) (zr_V (i := 122) (n := 0) (q := ("TransportPairModel", zF_1, 23)) zX_ok rfl (zgood_43) (by decide +kernel) (zw_T zwd_250) (zw_T zwd_787) (zw_T zwd_788) rfl (zw_T zwd_789) ⟨by decide +kernel, by decide +kernel, by decide +kernel⟩ rfl (by decide +kernel : decode (zYf 172).2.1 298 = .ok (.invokevirtual 122, 3)))
theorem zf_zm_172_104 (env : List (Nat × Nat)) : zI9 172 zY_172 zm_172 env (301, 63, 5, 0, 0) 303 := zi_iload (by decide +kernel : decode zY_172.2.1 301 = .ok (.iload 5, 2))
theorem zf_zm_172_105 (env : List (Nat × Nat)) : zI9 172 zY_172 zm_172 env (303, 20, 107, 0, 0) 306 := zi_icmp_eq (off := 5) (t := 308) (by decide +kernel : decode zY_172.2.1 303 = .ok (.if_icmp .eq 5, 3)) (by decide) (by decide +kernel)
theorem zf_zm_172_106 (env : List (Nat × Nat)) : zI9 172 zY_172 zm_172 env (306, 99, 0, 0, 0) 308 := zi_none
theorem zf_zm_172_107 (env : List (Nat × Nat)) : zI9 172 zY_172 zm_172 env (308, 63, 5, 0, 0) 310 := zi_iload (by decide +kernel : decode zY_172.2.1 308 = .ok (.iload 5, 2))
theorem zf_zm_172_108 (env : List (Nat × Nat)) : zI9 172 zY_172 zm_172 env (310, 6, 117, 0, 0) 313 := zi_if_ne (off := 15) (t := 325) (by decide +kernel : decode zY_172.2.1 310 = .ok (.ifCond .ne 15, 3)) (by decide) (by decide +kernel)
theorem zf_zm_172_109 (env : List (Nat × Nat)) : zI9 172 zY_172 zm_172 env (313, 0, 3, 0, 0) 314 := zi_aload_n (by decide +kernel : decode zY_172.2.1 313 = .ok (.aload_n 3, 1)) rfl
theorem zf_zm_172_110 (env : List (Nat × Nat)) : zI9 172 zY_172 zm_172 env (314, 2, 0, 0, 0) 315 := zi_iconst (by decide +kernel : decode zY_172.2.1 314 = .ok (.iconst 0, 1)) (by decide +kernel)
theorem zf_zm_172_111 (env : List (Nat × Nat)) : zI9 172 zY_172 zm_172 env (315, 26, 0, 0, 0) 316 := zi_lald (by decide +kernel : decode zY_172.2.1 315 = .ok (.laload, 1))
theorem zf_zm_172_112 (env : List (Nat × Nat)) : zI9 172 zY_172 zm_172 env (316, 63, 6, 0, 0) 318 := zi_iload (by decide +kernel : decode zY_172.2.1 316 = .ok (.iload 6, 2))
theorem zf_zm_172_113 (env : List (Nat × Nat)) : zI9 172 zY_172 zm_172 env (318, 16, 0, 0, 0) 319 := zi_i2l (by decide +kernel : decode zY_172.2.1 318 = .ok (.i2l, 1))
theorem zf_zm_172_114 (env : List (Nat × Nat)) : zI9 172 zY_172 zm_172 env (319, 34, 0, 0, 0) 320 := zi_lcmp (by decide +kernel : decode zY_172.2.1 319 = .ok (.lcmp, 1))
theorem zf_zm_172_115 (env : List (Nat × Nat)) : zI9 172 zY_172 zm_172 env (320, 5, 117, 0, 0) 323 := zi_if_eq (off := 5) (t := 325) (by decide +kernel : decode zY_172.2.1 320 = .ok (.ifCond .eq 5, 3)) (by decide) (by decide +kernel)
theorem zf_zm_172_116 (env : List (Nat × Nat)) : zI9 172 zY_172 zm_172 env (323, 99, 0, 0, 0) 325 := zi_none
theorem zf_zm_172_117 (env : List (Nat × Nat)) : zI9 172 zY_172 zm_172 env (325, 7, 1145, 0, 0) 328 := zi_goto (off := 1703) (t := 2028) (by decide +kernel : decode zY_172.2.1 325 = .ok (.goto 1703, 3)) (by decide) (by decide +kernel)
theorem zf_zm_172_118 (env : List (Nat × Nat)) : zI9 172 zY_172 zm_172 env (328, 0, 1, 0, 0) 329 := zi_aload_n (by decide +kernel : decode zY_172.2.1 328 = .ok (.aload_n 1, 1)) rfl
theorem zf_zm_172_119 (env : List (Nat × Nat)) : zI9 172 zY_172 zm_172 env (329, 0, 0, 0, 0) 330 := zi_aload_n (by decide +kernel : decode zY_172.2.1 329 = .ok (.aload_n 0, 1)) rfl
theorem zf_zm_172_120 (env : List (Nat × Nat)) : zI9 172 zY_172 zm_172 env (330, 63, 4, 0, 0) 332 := zi_iload (by decide +kernel : decode zY_172.2.1 330 = .ok (.iload 4, 2))
theorem zf_zm_172_121 (env : List (Nat × Nat)) : zI9 172 zY_172 zm_172 env (332, 2, 1, 0, 0) 333 := zi_iconst (by decide +kernel : decode zY_172.2.1 332 = .ok (.iconst 1, 1)) (by decide +kernel)
theorem zf_zm_172_122 (env : List (Nat × Nat)) : zI9 172 zY_172 zm_172 env (333, 9, 0, 0, 0) 334 := zi_iadd (by decide +kernel : decode zY_172.2.1 333 = .ok (.iadd, 1))
theorem zf_zm_172_123 (env : List (Nat × Nat)) : zI9 172 zY_172 zm_172 env (334, 8, 0, 0, 0) 335 := zi_iald (zscr_ok (by decide +kernel : decode zY_172.2.1 334 = .ok (.iaload, 1))) (by decide +kernel : decode zY_172.2.1 334 = .ok (.iaload, 1))
theorem zf_zm_172_124 (env : List (Nat × Nat)) : zC9 172 zm_172 env (335, 66, 144, 131, 0) := zi_call (by decide +kernel) (zr_SW (i := 130) zX_ok rfl (zgood_144) (by decide +kernel) (zw_T zwd_781) (zw_T zwd_795) (zw_T zwd_796) ⟨by decide +kernel, by decide +kernel, by decide +kernel⟩ (by decide +kernel : decode (zYf 172).2.1 335 = .ok (.invokestatic 130, 3)))
theorem zf_zm_172_125 (env : List (Nat × Nat)) : zI9 172 zY_172 zm_172 env (338, 10, 5, 0, 0) 340 := zi_istore (by decide +kernel : decode zY_172.2.1 338 = .ok (.istore 5, 2)) (by decide)
theorem zf_zm_172_126 (env : List (Nat × Nat)) : zI9 172 zY_172 zm_172 env (340, 0, 2, 0, 0) 341 := zi_aload_n (by decide +kernel : decode zY_172.2.1 340 = .ok (.aload_n 2, 1)) rfl
theorem zf_zm_172_127 (env : List (Nat × Nat)) : zI9 172 zY_172 zm_172 env (341, 0, 0, 0, 0) 342 := zi_aload_n (by decide +kernel : decode zY_172.2.1 341 = .ok (.aload_n 0, 1)) rfl
theorem zf_zm_172_128 (env : List (Nat × Nat)) : zI9 172 zY_172 zm_172 env (342, 63, 4, 0, 0) 344 := zi_iload (by decide +kernel : decode zY_172.2.1 342 = .ok (.iload 4, 2))
theorem zf_zm_172_129 (env : List (Nat × Nat)) : zI9 172 zY_172 zm_172 env (344, 2, 1, 0, 0) 345 := zi_iconst (by decide +kernel : decode zY_172.2.1 344 = .ok (.iconst 1, 1)) (by decide +kernel)
theorem zf_zm_172_130 (env : List (Nat × Nat)) : zI9 172 zY_172 zm_172 env (345, 9, 0, 0, 0) 346 := zi_iadd (by decide +kernel : decode zY_172.2.1 345 = .ok (.iadd, 1))
theorem zf_zm_172_131 (env : List (Nat × Nat)) : zI9 172 zY_172 zm_172 env (346, 8, 0, 0, 0) 347 := zi_iald (zscr_ok (by decide +kernel : decode zY_172.2.1 346 = .ok (.iaload, 1))) (by decide +kernel : decode zY_172.2.1 346 = .ok (.iaload, 1))
theorem zf_zm_172_132 (env : List (Nat × Nat)) : zC9 172 zm_172 env (347, 66, 48, 131, 3) := zi_call (by decide +kernel) (zr_V (i := 133) (n := 1) (q := ("TransportPairModel", zF_1, 23)) zX_ok rfl (zgood_48) (by decide +kernel) (zw_T zwd_250) (zw_T zwd_797) (zw_T zwd_798) rfl (zw_T zwd_799) ⟨by decide +kernel, by decide +kernel, by decide +kernel⟩ rfl (by decide +kernel : decode (zYf 172).2.1 347 = .ok (.invokevirtual 133, 3)))
theorem zf_zm_172_133 (env : List (Nat × Nat)) : zI9 172 zY_172 zm_172 env (350, 0, 2, 0, 0) 351 := zi_aload_n (by decide +kernel : decode zY_172.2.1 350 = .ok (.aload_n 2, 1)) rfl
theorem zf_zm_172_134 (env : List (Nat × Nat)) : zC9 172 zm_172 env (351, 66, 43, 65, 3) := zi_call (by decide +kernel) (zr_V (i := 122) (n := 0) (q := ("TransportPairModel", zF_1, 23)) zX_ok rfl (zgood_43) (by decide +kernel) (zw_T zwd_250) (zw_T zwd_787) (zw_T zwd_788) rfl (zw_T zwd_789) ⟨by decide +kernel, by decide +kernel, by decide +kernel⟩ rfl (by decide +kernel : decode (zYf 172).2.1 351 = .ok (.invokevirtual 122, 3)))
theorem zf_zm_172_135 (env : List (Nat × Nat)) : zI9 172 zY_172 zm_172 env (354, 63, 5, 0, 0) 356 := zi_iload (by decide +kernel : decode zY_172.2.1 354 = .ok (.iload 5, 2))
theorem zf_zm_172_136 (env : List (Nat × Nat)) : zI9 172 zY_172 zm_172 env (356, 20, 138, 0, 0) 359 := zi_icmp_eq (off := 5) (t := 361) (by decide +kernel : decode zY_172.2.1 356 = .ok (.if_icmp .eq 5, 3)) (by decide) (by decide +kernel)
theorem zf_zm_172_137 (env : List (Nat × Nat)) : zI9 172 zY_172 zm_172 env (359, 99, 0, 0, 0) 361 := zi_none
theorem zf_zm_172_138 (env : List (Nat × Nat)) : zI9 172 zY_172 zm_172 env (361, 7, 1145, 0, 0) 364 := zi_goto (off := 1667) (t := 2028) (by decide +kernel : decode zY_172.2.1 361 = .ok (.goto 1667, 3)) (by decide) (by decide +kernel)
theorem zf_zm_172_139 (env : List (Nat × Nat)) : zI9 172 zY_172 zm_172 env (364, 0, 1, 0, 0) 365 := zi_aload_n (by decide +kernel : decode zY_172.2.1 364 = .ok (.aload_n 1, 1)) rfl
theorem zf_zm_172_140 (env : List (Nat × Nat)) : zI9 172 zY_172 zm_172 env (365, 0, 0, 0, 0) 366 := zi_aload_n (by decide +kernel : decode zY_172.2.1 365 = .ok (.aload_n 0, 1)) rfl
theorem zf_zm_172_141 (env : List (Nat × Nat)) : zI9 172 zY_172 zm_172 env (366, 63, 4, 0, 0) 368 := zi_iload (by decide +kernel : decode zY_172.2.1 366 = .ok (.iload 4, 2))
theorem zf_zm_172_142 (env : List (Nat × Nat)) : zI9 172 zY_172 zm_172 env (368, 2, 1, 0, 0) 369 := zi_iconst (by decide +kernel : decode zY_172.2.1 368 = .ok (.iconst 1, 1)) (by decide +kernel)
theorem zf_zm_172_143 (env : List (Nat × Nat)) : zI9 172 zY_172 zm_172 env (369, 9, 0, 0, 0) 370 := zi_iadd (by decide +kernel : decode zY_172.2.1 369 = .ok (.iadd, 1))
theorem zf_zm_172_144 (env : List (Nat × Nat)) : zI9 172 zY_172 zm_172 env (370, 8, 0, 0, 0) 371 := zi_iald (zscr_ok (by decide +kernel : decode zY_172.2.1 370 = .ok (.iaload, 1))) (by decide +kernel : decode zY_172.2.1 370 = .ok (.iaload, 1))
theorem zf_zm_172_145 (env : List (Nat × Nat)) : zC9 172 zm_172 env (371, 66, 145, 131, 0) := zi_call (by decide +kernel) (zr_SW (i := 134) zX_ok rfl (zgood_145) (by decide +kernel) (zw_T zwd_781) (zw_T zwd_800) (zw_T zwd_801) ⟨by decide +kernel, by decide +kernel, by decide +kernel⟩ (by decide +kernel : decode (zYf 172).2.1 371 = .ok (.invokestatic 134, 3)))
theorem zf_zm_172_146 (env : List (Nat × Nat)) : zI9 172 zY_172 zm_172 env (374, 10, 5, 0, 0) 376 := zi_istore (by decide +kernel : decode zY_172.2.1 374 = .ok (.istore 5, 2)) (by decide)
theorem zf_zm_172_147 (env : List (Nat × Nat)) : zI9 172 zY_172 zm_172 env (376, 0, 2, 0, 0) 377 := zi_aload_n (by decide +kernel : decode zY_172.2.1 376 = .ok (.aload_n 2, 1)) rfl
theorem zf_zm_172_148 (env : List (Nat × Nat)) : zI9 172 zY_172 zm_172 env (377, 0, 0, 0, 0) 378 := zi_aload_n (by decide +kernel : decode zY_172.2.1 377 = .ok (.aload_n 0, 1)) rfl
theorem zf_zm_172_149 (env : List (Nat × Nat)) : zI9 172 zY_172 zm_172 env (378, 63, 4, 0, 0) 380 := zi_iload (by decide +kernel : decode zY_172.2.1 378 = .ok (.iload 4, 2))
theorem zf_zm_172_150 (env : List (Nat × Nat)) : zI9 172 zY_172 zm_172 env (380, 2, 1, 0, 0) 381 := zi_iconst (by decide +kernel : decode zY_172.2.1 380 = .ok (.iconst 1, 1)) (by decide +kernel)
theorem zf_zm_172_151 (env : List (Nat × Nat)) : zI9 172 zY_172 zm_172 env (381, 9, 0, 0, 0) 382 := zi_iadd (by decide +kernel : decode zY_172.2.1 381 = .ok (.iadd, 1))
theorem zf_zm_172_152 (env : List (Nat × Nat)) : zI9 172 zY_172 zm_172 env (382, 8, 0, 0, 0) 383 := zi_iald (zscr_ok (by decide +kernel : decode zY_172.2.1 382 = .ok (.iaload, 1))) (by decide +kernel : decode zY_172.2.1 382 = .ok (.iaload, 1))
theorem zf_zm_172_153 (env : List (Nat × Nat)) : zC9 172 zm_172 env (383, 66, 49, 131, 3) := zi_call (by decide +kernel) (zr_V (i := 136) (n := 1) (q := ("TransportPairModel", zF_1, 23)) zX_ok rfl (zgood_49) (by decide +kernel) (zw_T zwd_250) (zw_T zwd_802) (zw_T zwd_803) rfl (zw_T zwd_804) ⟨by decide +kernel, by decide +kernel, by decide +kernel⟩ rfl (by decide +kernel : decode (zYf 172).2.1 383 = .ok (.invokevirtual 136, 3)))
theorem zf_zm_172_154 (env : List (Nat × Nat)) : zI9 172 zY_172 zm_172 env (386, 0, 2, 0, 0) 387 := zi_aload_n (by decide +kernel : decode zY_172.2.1 386 = .ok (.aload_n 2, 1)) rfl
theorem zf_zm_172_155 (env : List (Nat × Nat)) : zC9 172 zm_172 env (387, 66, 43, 65, 3) := zi_call (by decide +kernel) (zr_V (i := 122) (n := 0) (q := ("TransportPairModel", zF_1, 23)) zX_ok rfl (zgood_43) (by decide +kernel) (zw_T zwd_250) (zw_T zwd_787) (zw_T zwd_788) rfl (zw_T zwd_789) ⟨by decide +kernel, by decide +kernel, by decide +kernel⟩ rfl (by decide +kernel : decode (zYf 172).2.1 387 = .ok (.invokevirtual 122, 3)))
theorem zf_zm_172_156 (env : List (Nat × Nat)) : zI9 172 zY_172 zm_172 env (390, 63, 5, 0, 0) 392 := zi_iload (by decide +kernel : decode zY_172.2.1 390 = .ok (.iload 5, 2))
theorem zf_zm_172_157 (env : List (Nat × Nat)) : zI9 172 zY_172 zm_172 env (392, 20, 159, 0, 0) 395 := zi_icmp_eq (off := 5) (t := 397) (by decide +kernel : decode zY_172.2.1 392 = .ok (.if_icmp .eq 5, 3)) (by decide) (by decide +kernel)
theorem zf_zm_172_158 (env : List (Nat × Nat)) : zI9 172 zY_172 zm_172 env (395, 99, 0, 0, 0) 397 := zi_none
theorem zf_zm_172_159 (env : List (Nat × Nat)) : zI9 172 zY_172 zm_172 env (397, 7, 1145, 0, 0) 400 := zi_goto (off := 1631) (t := 2028) (by decide +kernel : decode zY_172.2.1 397 = .ok (.goto 1631, 3)) (by decide) (by decide +kernel)
theorem zf_zm_172_160 (env : List (Nat × Nat)) : zI9 172 zY_172 zm_172 env (400, 0, 1, 0, 0) 401 := zi_aload_n (by decide +kernel : decode zY_172.2.1 400 = .ok (.aload_n 1, 1)) rfl
theorem zf_zm_172_161 (env : List (Nat × Nat)) : zI9 172 zY_172 zm_172 env (401, 0, 0, 0, 0) 402 := zi_aload_n (by decide +kernel : decode zY_172.2.1 401 = .ok (.aload_n 0, 1)) rfl
theorem zf_zm_172_162 (env : List (Nat × Nat)) : zI9 172 zY_172 zm_172 env (402, 63, 4, 0, 0) 404 := zi_iload (by decide +kernel : decode zY_172.2.1 402 = .ok (.iload 4, 2))
theorem zf_zm_172_163 (env : List (Nat × Nat)) : zI9 172 zY_172 zm_172 env (404, 2, 1, 0, 0) 405 := zi_iconst (by decide +kernel : decode zY_172.2.1 404 = .ok (.iconst 1, 1)) (by decide +kernel)
theorem zf_zm_172_164 (env : List (Nat × Nat)) : zI9 172 zY_172 zm_172 env (405, 9, 0, 0, 0) 406 := zi_iadd (by decide +kernel : decode zY_172.2.1 405 = .ok (.iadd, 1))
theorem zf_zm_172_165 (env : List (Nat × Nat)) : zI9 172 zY_172 zm_172 env (406, 8, 0, 0, 0) 407 := zi_iald (zscr_ok (by decide +kernel : decode zY_172.2.1 406 = .ok (.iaload, 1))) (by decide +kernel : decode zY_172.2.1 406 = .ok (.iaload, 1))
theorem zf_zm_172_166 (env : List (Nat × Nat)) : zI9 172 zY_172 zm_172 env (407, 0, 0, 0, 0) 408 := zi_aload_n (by decide +kernel : decode zY_172.2.1 407 = .ok (.aload_n 0, 1)) rfl
theorem zf_zm_172_167 (env : List (Nat × Nat)) : zI9 172 zY_172 zm_172 env (408, 63, 4, 0, 0) 410 := zi_iload (by decide +kernel : decode zY_172.2.1 408 = .ok (.iload 4, 2))
theorem zf_zm_172_168 (env : List (Nat × Nat)) : zI9 172 zY_172 zm_172 env (410, 2, 2, 0, 0) 411 := zi_iconst (by decide +kernel : decode zY_172.2.1 410 = .ok (.iconst 2, 1)) (by decide +kernel)
theorem zf_zm_172_169 (env : List (Nat × Nat)) : zI9 172 zY_172 zm_172 env (411, 9, 0, 0, 0) 412 := zi_iadd (by decide +kernel : decode zY_172.2.1 411 = .ok (.iadd, 1))
theorem zf_zm_172_170 (env : List (Nat × Nat)) : zI9 172 zY_172 zm_172 env (412, 8, 0, 0, 0) 413 := zi_iald (zscr_ok (by decide +kernel : decode zY_172.2.1 412 = .ok (.iaload, 1))) (by decide +kernel : decode zY_172.2.1 412 = .ok (.iaload, 1))
theorem zf_zm_172_171 (env : List (Nat × Nat)) : zI9 172 zY_172 zm_172 env (413, 0, 0, 0, 0) 414 := zi_aload_n (by decide +kernel : decode zY_172.2.1 413 = .ok (.aload_n 0, 1)) rfl
theorem zf_zm_172_172 (env : List (Nat × Nat)) : zI9 172 zY_172 zm_172 env (414, 63, 4, 0, 0) 416 := zi_iload (by decide +kernel : decode zY_172.2.1 414 = .ok (.iload 4, 2))
theorem zf_zm_172_173 (env : List (Nat × Nat)) : zI9 172 zY_172 zm_172 env (416, 2, 3, 0, 0) 417 := zi_iconst (by decide +kernel : decode zY_172.2.1 416 = .ok (.iconst 3, 1)) (by decide +kernel)
theorem zf_zm_172_174 (env : List (Nat × Nat)) : zI9 172 zY_172 zm_172 env (417, 9, 0, 0, 0) 418 := zi_iadd (by decide +kernel : decode zY_172.2.1 417 = .ok (.iadd, 1))
theorem zf_zm_172_175 (env : List (Nat × Nat)) : zI9 172 zY_172 zm_172 env (418, 8, 0, 0, 0) 419 := zi_iald (zscr_ok (by decide +kernel : decode zY_172.2.1 418 = .ok (.iaload, 1))) (by decide +kernel : decode zY_172.2.1 418 = .ok (.iaload, 1))
theorem zf_zm_172_176 (env : List (Nat × Nat)) : zC9 172 zm_172 env (419, 66, 146, 261, 0) := zi_call (by decide +kernel) (zr_SW (i := 137) zX_ok rfl (zgood_146) (by decide +kernel) (zw_T zwd_781) (zw_T zwd_805) (zw_T zwd_806) ⟨by decide +kernel, by decide +kernel, by decide +kernel⟩ (by decide +kernel : decode (zYf 172).2.1 419 = .ok (.invokestatic 137, 3)))
theorem zf_zm_172_177 (env : List (Nat × Nat)) : zI9 172 zY_172 zm_172 env (422, 10, 5, 0, 0) 424 := zi_istore (by decide +kernel : decode zY_172.2.1 422 = .ok (.istore 5, 2)) (by decide)
theorem zf_zm_172_178 (env : List (Nat × Nat)) : zI9 172 zY_172 zm_172 env (424, 0, 2, 0, 0) 425 := zi_aload_n (by decide +kernel : decode zY_172.2.1 424 = .ok (.aload_n 2, 1)) rfl
theorem zf_zm_172_179 (env : List (Nat × Nat)) : zI9 172 zY_172 zm_172 env (425, 0, 0, 0, 0) 426 := zi_aload_n (by decide +kernel : decode zY_172.2.1 425 = .ok (.aload_n 0, 1)) rfl
theorem zf_zm_172_180 (env : List (Nat × Nat)) : zI9 172 zY_172 zm_172 env (426, 63, 4, 0, 0) 428 := zi_iload (by decide +kernel : decode zY_172.2.1 426 = .ok (.iload 4, 2))
theorem zf_zm_172_181 (env : List (Nat × Nat)) : zI9 172 zY_172 zm_172 env (428, 2, 1, 0, 0) 429 := zi_iconst (by decide +kernel : decode zY_172.2.1 428 = .ok (.iconst 1, 1)) (by decide +kernel)
theorem zf_zm_172_182 (env : List (Nat × Nat)) : zI9 172 zY_172 zm_172 env (429, 9, 0, 0, 0) 430 := zi_iadd (by decide +kernel : decode zY_172.2.1 429 = .ok (.iadd, 1))
theorem zf_zm_172_183 (env : List (Nat × Nat)) : zI9 172 zY_172 zm_172 env (430, 8, 0, 0, 0) 431 := zi_iald (zscr_ok (by decide +kernel : decode zY_172.2.1 430 = .ok (.iaload, 1))) (by decide +kernel : decode zY_172.2.1 430 = .ok (.iaload, 1))
theorem zf_zm_172_184 (env : List (Nat × Nat)) : zI9 172 zY_172 zm_172 env (431, 0, 0, 0, 0) 432 := zi_aload_n (by decide +kernel : decode zY_172.2.1 431 = .ok (.aload_n 0, 1)) rfl
theorem zf_zm_172_185 (env : List (Nat × Nat)) : zI9 172 zY_172 zm_172 env (432, 63, 4, 0, 0) 434 := zi_iload (by decide +kernel : decode zY_172.2.1 432 = .ok (.iload 4, 2))
theorem zf_zm_172_186 (env : List (Nat × Nat)) : zI9 172 zY_172 zm_172 env (434, 2, 2, 0, 0) 435 := zi_iconst (by decide +kernel : decode zY_172.2.1 434 = .ok (.iconst 2, 1)) (by decide +kernel)
theorem zf_zm_172_187 (env : List (Nat × Nat)) : zI9 172 zY_172 zm_172 env (435, 9, 0, 0, 0) 436 := zi_iadd (by decide +kernel : decode zY_172.2.1 435 = .ok (.iadd, 1))
theorem zf_zm_172_188 (env : List (Nat × Nat)) : zI9 172 zY_172 zm_172 env (436, 8, 0, 0, 0) 437 := zi_iald (zscr_ok (by decide +kernel : decode zY_172.2.1 436 = .ok (.iaload, 1))) (by decide +kernel : decode zY_172.2.1 436 = .ok (.iaload, 1))
theorem zf_zm_172_189 (env : List (Nat × Nat)) : zI9 172 zY_172 zm_172 env (437, 0, 0, 0, 0) 438 := zi_aload_n (by decide +kernel : decode zY_172.2.1 437 = .ok (.aload_n 0, 1)) rfl
theorem zf_zm_172_190 (env : List (Nat × Nat)) : zI9 172 zY_172 zm_172 env (438, 63, 4, 0, 0) 440 := zi_iload (by decide +kernel : decode zY_172.2.1 438 = .ok (.iload 4, 2))
theorem zf_zm_172_191 (env : List (Nat × Nat)) : zI9 172 zY_172 zm_172 env (440, 2, 3, 0, 0) 441 := zi_iconst (by decide +kernel : decode zY_172.2.1 440 = .ok (.iconst 3, 1)) (by decide +kernel)
theorem zf_zm_172_192 (env : List (Nat × Nat)) : zI9 172 zY_172 zm_172 env (441, 9, 0, 0, 0) 442 := zi_iadd (by decide +kernel : decode zY_172.2.1 441 = .ok (.iadd, 1))
theorem zf_zm_172_193 (env : List (Nat × Nat)) : zI9 172 zY_172 zm_172 env (442, 8, 0, 0, 0) 443 := zi_iald (zscr_ok (by decide +kernel : decode zY_172.2.1 442 = .ok (.iaload, 1))) (by decide +kernel : decode zY_172.2.1 442 = .ok (.iaload, 1))
theorem zf_zm_172_194 (env : List (Nat × Nat)) : zC9 172 zm_172 env (443, 66, 50, 261, 3) := zi_call (by decide +kernel) (zr_V (i := 140) (n := 3) (q := ("TransportPairModel", zF_1, 23)) zX_ok rfl (zgood_50) (by decide +kernel) (zw_T zwd_250) (zw_T zwd_807) (zw_T zwd_808) rfl (zw_T zwd_809) ⟨by decide +kernel, by decide +kernel, by decide +kernel⟩ rfl (by decide +kernel : decode (zYf 172).2.1 443 = .ok (.invokevirtual 140, 3)))
theorem zf_zm_172_195 (env : List (Nat × Nat)) : zI9 172 zY_172 zm_172 env (446, 0, 2, 0, 0) 447 := zi_aload_n (by decide +kernel : decode zY_172.2.1 446 = .ok (.aload_n 2, 1)) rfl
theorem zf_zm_172_196 (env : List (Nat × Nat)) : zC9 172 zm_172 env (447, 66, 43, 65, 3) := zi_call (by decide +kernel) (zr_V (i := 122) (n := 0) (q := ("TransportPairModel", zF_1, 23)) zX_ok rfl (zgood_43) (by decide +kernel) (zw_T zwd_250) (zw_T zwd_787) (zw_T zwd_788) rfl (zw_T zwd_789) ⟨by decide +kernel, by decide +kernel, by decide +kernel⟩ rfl (by decide +kernel : decode (zYf 172).2.1 447 = .ok (.invokevirtual 122, 3)))
theorem zf_zm_172_197 (env : List (Nat × Nat)) : zI9 172 zY_172 zm_172 env (450, 63, 5, 0, 0) 452 := zi_iload (by decide +kernel : decode zY_172.2.1 450 = .ok (.iload 5, 2))
theorem zf_zm_172_198 (env : List (Nat × Nat)) : zI9 172 zY_172 zm_172 env (452, 20, 200, 0, 0) 455 := zi_icmp_eq (off := 5) (t := 457) (by decide +kernel : decode zY_172.2.1 452 = .ok (.if_icmp .eq 5, 3)) (by decide) (by decide +kernel)
theorem zf_zm_172_199 (env : List (Nat × Nat)) : zI9 172 zY_172 zm_172 env (455, 99, 0, 0, 0) 457 := zi_none
theorem zf_zm_172_200 (env : List (Nat × Nat)) : zI9 172 zY_172 zm_172 env (457, 7, 1145, 0, 0) 460 := zi_goto (off := 1571) (t := 2028) (by decide +kernel : decode zY_172.2.1 457 = .ok (.goto 1571, 3)) (by decide) (by decide +kernel)
theorem zf_zm_172_201 (env : List (Nat × Nat)) : zI9 172 zY_172 zm_172 env (460, 0, 1, 0, 0) 461 := zi_aload_n (by decide +kernel : decode zY_172.2.1 460 = .ok (.aload_n 1, 1)) rfl
theorem zf_zm_172_202 (env : List (Nat × Nat)) : zC9 172 zm_172 env (461, 66, 147, 66, 0) := zi_call (by decide +kernel) (zr_SW (i := 141) zX_ok rfl (zgood_147) (by decide +kernel) (zw_T zwd_781) (zw_T zwd_810) (zw_T zwd_811) ⟨by decide +kernel, by decide +kernel, by decide +kernel⟩ (by decide +kernel : decode (zYf 172).2.1 461 = .ok (.invokestatic 141, 3)))
theorem zf_zm_172_203 (env : List (Nat × Nat)) : zI9 172 zY_172 zm_172 env (464, 10, 5, 0, 0) 466 := zi_istore (by decide +kernel : decode zY_172.2.1 464 = .ok (.istore 5, 2)) (by decide)
theorem zf_zm_172_204 (env : List (Nat × Nat)) : zI9 172 zY_172 zm_172 env (466, 0, 2, 0, 0) 467 := zi_aload_n (by decide +kernel : decode zY_172.2.1 466 = .ok (.aload_n 2, 1)) rfl
theorem zf_zm_172_205 (env : List (Nat × Nat)) : zC9 172 zm_172 env (467, 66, 51, 67, 3) := zi_call (by decide +kernel) (zr_V (i := 144) (n := 0) (q := ("TransportPairModel", zF_1, 23)) zX_ok rfl (zgood_51) (by decide +kernel) (zw_T zwd_250) (zw_T zwd_812) (zw_T zwd_813) rfl (zw_T zwd_814) ⟨by decide +kernel, by decide +kernel, by decide +kernel⟩ rfl (by decide +kernel : decode (zYf 172).2.1 467 = .ok (.invokevirtual 144, 3)))
theorem zf_zm_172_206 (env : List (Nat × Nat)) : zI9 172 zY_172 zm_172 env (470, 0, 2, 0, 0) 471 := zi_aload_n (by decide +kernel : decode zY_172.2.1 470 = .ok (.aload_n 2, 1)) rfl
theorem zf_zm_172_207 (env : List (Nat × Nat)) : zC9 172 zm_172 env (471, 66, 43, 65, 3) := zi_call (by decide +kernel) (zr_V (i := 122) (n := 0) (q := ("TransportPairModel", zF_1, 23)) zX_ok rfl (zgood_43) (by decide +kernel) (zw_T zwd_250) (zw_T zwd_787) (zw_T zwd_788) rfl (zw_T zwd_789) ⟨by decide +kernel, by decide +kernel, by decide +kernel⟩ rfl (by decide +kernel : decode (zYf 172).2.1 471 = .ok (.invokevirtual 122, 3)))
theorem zf_zm_172_208 (env : List (Nat × Nat)) : zI9 172 zY_172 zm_172 env (474, 63, 5, 0, 0) 476 := zi_iload (by decide +kernel : decode zY_172.2.1 474 = .ok (.iload 5, 2))
theorem zf_zm_172_209 (env : List (Nat × Nat)) : zI9 172 zY_172 zm_172 env (476, 20, 211, 0, 0) 479 := zi_icmp_eq (off := 5) (t := 481) (by decide +kernel : decode zY_172.2.1 476 = .ok (.if_icmp .eq 5, 3)) (by decide) (by decide +kernel)
theorem zf_zm_172_210 (env : List (Nat × Nat)) : zI9 172 zY_172 zm_172 env (479, 99, 0, 0, 0) 481 := zi_none
theorem zf_zm_172_211 (env : List (Nat × Nat)) : zI9 172 zY_172 zm_172 env (481, 7, 1145, 0, 0) 484 := zi_goto (off := 1547) (t := 2028) (by decide +kernel : decode zY_172.2.1 481 = .ok (.goto 1547, 3)) (by decide) (by decide +kernel)
theorem zf_zm_172_212 (env : List (Nat × Nat)) : zI9 172 zY_172 zm_172 env (484, 0, 1, 0, 0) 485 := zi_aload_n (by decide +kernel : decode zY_172.2.1 484 = .ok (.aload_n 1, 1)) rfl
theorem zf_zm_172_213 (env : List (Nat × Nat)) : zI9 172 zY_172 zm_172 env (485, 0, 0, 0, 0) 486 := zi_aload_n (by decide +kernel : decode zY_172.2.1 485 = .ok (.aload_n 0, 1)) rfl
theorem zf_zm_172_214 (env : List (Nat × Nat)) : zI9 172 zY_172 zm_172 env (486, 63, 4, 0, 0) 488 := zi_iload (by decide +kernel : decode zY_172.2.1 486 = .ok (.iload 4, 2))
theorem zf_zm_172_215 (env : List (Nat × Nat)) : zI9 172 zY_172 zm_172 env (488, 2, 1, 0, 0) 489 := zi_iconst (by decide +kernel : decode zY_172.2.1 488 = .ok (.iconst 1, 1)) (by decide +kernel)
theorem zf_zm_172_216 (env : List (Nat × Nat)) : zI9 172 zY_172 zm_172 env (489, 9, 0, 0, 0) 490 := zi_iadd (by decide +kernel : decode zY_172.2.1 489 = .ok (.iadd, 1))
theorem zf_zm_172_217 (env : List (Nat × Nat)) : zI9 172 zY_172 zm_172 env (490, 8, 0, 0, 0) 491 := zi_iald (zscr_ok (by decide +kernel : decode zY_172.2.1 490 = .ok (.iaload, 1))) (by decide +kernel : decode zY_172.2.1 490 = .ok (.iaload, 1))
theorem zf_zm_172_218 (env : List (Nat × Nat)) : zI9 172 zY_172 zm_172 env (491, 0, 0, 0, 0) 492 := zi_aload_n (by decide +kernel : decode zY_172.2.1 491 = .ok (.aload_n 0, 1)) rfl
theorem zf_zm_172_219 (env : List (Nat × Nat)) : zI9 172 zY_172 zm_172 env (492, 63, 4, 0, 0) 494 := zi_iload (by decide +kernel : decode zY_172.2.1 492 = .ok (.iload 4, 2))
theorem zf_zm_172_220 (env : List (Nat × Nat)) : zI9 172 zY_172 zm_172 env (494, 2, 2, 0, 0) 495 := zi_iconst (by decide +kernel : decode zY_172.2.1 494 = .ok (.iconst 2, 1)) (by decide +kernel)
theorem zf_zm_172_221 (env : List (Nat × Nat)) : zI9 172 zY_172 zm_172 env (495, 9, 0, 0, 0) 496 := zi_iadd (by decide +kernel : decode zY_172.2.1 495 = .ok (.iadd, 1))
theorem zf_zm_172_222 (env : List (Nat × Nat)) : zI9 172 zY_172 zm_172 env (496, 8, 0, 0, 0) 497 := zi_iald (zscr_ok (by decide +kernel : decode zY_172.2.1 496 = .ok (.iaload, 1))) (by decide +kernel : decode zY_172.2.1 496 = .ok (.iaload, 1))
theorem zf_zm_172_223 (env : List (Nat × Nat)) : zI9 172 zY_172 zm_172 env (497, 5, 226, 0, 0) 500 := zi_if_eq (off := 7) (t := 504) (by decide +kernel : decode zY_172.2.1 497 = .ok (.ifCond .eq 7, 3)) (by decide) (by decide +kernel)
theorem zf_zm_172_224 (env : List (Nat × Nat)) : zI9 172 zY_172 zm_172 env (500, 2, 1, 0, 0) 501 := zi_iconst (by decide +kernel : decode zY_172.2.1 500 = .ok (.iconst 1, 1)) (by decide +kernel)
theorem zf_zm_172_225 (env : List (Nat × Nat)) : zI9 172 zY_172 zm_172 env (501, 7, 227, 0, 0) 504 := zi_goto (off := 4) (t := 505) (by decide +kernel : decode zY_172.2.1 501 = .ok (.goto 4, 3)) (by decide) (by decide +kernel)
theorem zf_zm_172_226 (env : List (Nat × Nat)) : zI9 172 zY_172 zm_172 env (504, 2, 0, 0, 0) 505 := zi_iconst (by decide +kernel : decode zY_172.2.1 504 = .ok (.iconst 0, 1)) (by decide +kernel)
theorem zf_zm_172_227 (env : List (Nat × Nat)) : zI9 172 zY_172 zm_172 env (505, 0, 3, 0, 0) 506 := zi_aload_n (by decide +kernel : decode zY_172.2.1 505 = .ok (.aload_n 3, 1)) rfl
theorem zf_zm_172_228 (env : List (Nat × Nat)) : zC9 172 zm_172 env (506, 66, 148, 261, 0) := zi_call (by decide +kernel) (zr_SW (i := 145) zX_ok rfl (zgood_148) (by decide +kernel) (zw_T zwd_781) (zw_T zwd_815) (zw_T zwd_816) ⟨by decide +kernel, by decide +kernel, by decide +kernel⟩ (by decide +kernel : decode (zYf 172).2.1 506 = .ok (.invokestatic 145, 3)))
theorem zf_zm_172_229 (env : List (Nat × Nat)) : zI9 172 zY_172 zm_172 env (509, 10, 5, 0, 0) 511 := zi_istore (by decide +kernel : decode zY_172.2.1 509 = .ok (.istore 5, 2)) (by decide)
theorem zf_zm_172_230 (env : List (Nat × Nat)) : zI9 172 zY_172 zm_172 env (511, 0, 2, 0, 0) 512 := zi_aload_n (by decide +kernel : decode zY_172.2.1 511 = .ok (.aload_n 2, 1)) rfl
theorem zf_zm_172_231 (env : List (Nat × Nat)) : zI9 172 zY_172 zm_172 env (512, 0, 0, 0, 0) 513 := zi_aload_n (by decide +kernel : decode zY_172.2.1 512 = .ok (.aload_n 0, 1)) rfl
theorem zf_zm_172_232 (env : List (Nat × Nat)) : zI9 172 zY_172 zm_172 env (513, 63, 4, 0, 0) 515 := zi_iload (by decide +kernel : decode zY_172.2.1 513 = .ok (.iload 4, 2))
theorem zf_zm_172_233 (env : List (Nat × Nat)) : zI9 172 zY_172 zm_172 env (515, 2, 1, 0, 0) 516 := zi_iconst (by decide +kernel : decode zY_172.2.1 515 = .ok (.iconst 1, 1)) (by decide +kernel)
theorem zf_zm_172_234 (env : List (Nat × Nat)) : zI9 172 zY_172 zm_172 env (516, 9, 0, 0, 0) 517 := zi_iadd (by decide +kernel : decode zY_172.2.1 516 = .ok (.iadd, 1))
theorem zf_zm_172_235 (env : List (Nat × Nat)) : zI9 172 zY_172 zm_172 env (517, 8, 0, 0, 0) 518 := zi_iald (zscr_ok (by decide +kernel : decode zY_172.2.1 517 = .ok (.iaload, 1))) (by decide +kernel : decode zY_172.2.1 517 = .ok (.iaload, 1))
theorem zf_zm_172_236 (env : List (Nat × Nat)) : zI9 172 zY_172 zm_172 env (518, 0, 0, 0, 0) 519 := zi_aload_n (by decide +kernel : decode zY_172.2.1 518 = .ok (.aload_n 0, 1)) rfl
theorem zf_zm_172_237 (env : List (Nat × Nat)) : zI9 172 zY_172 zm_172 env (519, 63, 4, 0, 0) 521 := zi_iload (by decide +kernel : decode zY_172.2.1 519 = .ok (.iload 4, 2))
theorem zf_zm_172_238 (env : List (Nat × Nat)) : zI9 172 zY_172 zm_172 env (521, 2, 2, 0, 0) 522 := zi_iconst (by decide +kernel : decode zY_172.2.1 521 = .ok (.iconst 2, 1)) (by decide +kernel)
theorem zf_zm_172_239 (env : List (Nat × Nat)) : zI9 172 zY_172 zm_172 env (522, 9, 0, 0, 0) 523 := zi_iadd (by decide +kernel : decode zY_172.2.1 522 = .ok (.iadd, 1))
theorem zf_zm_172_240 (env : List (Nat × Nat)) : zI9 172 zY_172 zm_172 env (523, 8, 0, 0, 0) 524 := zi_iald (zscr_ok (by decide +kernel : decode zY_172.2.1 523 = .ok (.iaload, 1))) (by decide +kernel : decode zY_172.2.1 523 = .ok (.iaload, 1))
theorem zf_zm_172_241 (env : List (Nat × Nat)) : zI9 172 zY_172 zm_172 env (524, 5, 244, 0, 0) 527 := zi_if_eq (off := 7) (t := 531) (by decide +kernel : decode zY_172.2.1 524 = .ok (.ifCond .eq 7, 3)) (by decide) (by decide +kernel)
theorem zf_zm_172_242 (env : List (Nat × Nat)) : zI9 172 zY_172 zm_172 env (527, 2, 1, 0, 0) 528 := zi_iconst (by decide +kernel : decode zY_172.2.1 527 = .ok (.iconst 1, 1)) (by decide +kernel)
theorem zf_zm_172_243 (env : List (Nat × Nat)) : zI9 172 zY_172 zm_172 env (528, 7, 245, 0, 0) 531 := zi_goto (off := 4) (t := 532) (by decide +kernel : decode zY_172.2.1 528 = .ok (.goto 4, 3)) (by decide) (by decide +kernel)
theorem zf_zm_172_244 (env : List (Nat × Nat)) : zI9 172 zY_172 zm_172 env (531, 2, 0, 0, 0) 532 := zi_iconst (by decide +kernel : decode zY_172.2.1 531 = .ok (.iconst 0, 1)) (by decide +kernel)
theorem zf_zm_172_245 (env : List (Nat × Nat)) : zC9 172 zm_172 env (532, 66, 52, 195, 3) := zi_call (by decide +kernel) (zr_V (i := 148) (n := 2) (q := ("TransportPairModel", zF_1, 23)) zX_ok rfl (zgood_52) (by decide +kernel) (zw_T zwd_250) (zw_T zwd_817) (zw_T zwd_818) rfl (zw_T zwd_819) ⟨by decide +kernel, by decide +kernel, by decide +kernel⟩ rfl (by decide +kernel : decode (zYf 172).2.1 532 = .ok (.invokevirtual 148, 3)))
theorem zf_zm_172_246 (env : List (Nat × Nat)) : zI9 172 zY_172 zm_172 env (535, 10, 6, 0, 0) 537 := zi_istore (by decide +kernel : decode zY_172.2.1 535 = .ok (.istore 6, 2)) (by decide)
theorem zf_zm_172_247 (env : List (Nat × Nat)) : zI9 172 zY_172 zm_172 env (537, 0, 2, 0, 0) 538 := zi_aload_n (by decide +kernel : decode zY_172.2.1 537 = .ok (.aload_n 2, 1)) rfl
theorem zf_zm_172_248 (env : List (Nat × Nat)) : zC9 172 zm_172 env (538, 66, 43, 65, 3) := zi_call (by decide +kernel) (zr_V (i := 122) (n := 0) (q := ("TransportPairModel", zF_1, 23)) zX_ok rfl (zgood_43) (by decide +kernel) (zw_T zwd_250) (zw_T zwd_787) (zw_T zwd_788) rfl (zw_T zwd_789) ⟨by decide +kernel, by decide +kernel, by decide +kernel⟩ rfl (by decide +kernel : decode (zYf 172).2.1 538 = .ok (.invokevirtual 122, 3)))
theorem zf_zm_172_249 (env : List (Nat × Nat)) : zI9 172 zY_172 zm_172 env (541, 63, 5, 0, 0) 543 := zi_iload (by decide +kernel : decode zY_172.2.1 541 = .ok (.iload 5, 2))
theorem zf_zm_172_250 (env : List (Nat × Nat)) : zI9 172 zY_172 zm_172 env (543, 20, 252, 0, 0) 546 := zi_icmp_eq (off := 5) (t := 548) (by decide +kernel : decode zY_172.2.1 543 = .ok (.if_icmp .eq 5, 3)) (by decide) (by decide +kernel)
theorem zf_zm_172_251 (env : List (Nat × Nat)) : zI9 172 zY_172 zm_172 env (546, 99, 0, 0, 0) 548 := zi_none
theorem zf_zm_172_252 (env : List (Nat × Nat)) : zI9 172 zY_172 zm_172 env (548, 63, 5, 0, 0) 550 := zi_iload (by decide +kernel : decode zY_172.2.1 548 = .ok (.iload 5, 2))
theorem zf_zm_172_253 (env : List (Nat × Nat)) : zI9 172 zY_172 zm_172 env (550, 6, 262, 0, 0) 553 := zi_if_ne (off := 15) (t := 565) (by decide +kernel : decode zY_172.2.1 550 = .ok (.ifCond .ne 15, 3)) (by decide) (by decide +kernel)
theorem zf_zm_172_254 (env : List (Nat × Nat)) : zI9 172 zY_172 zm_172 env (553, 0, 3, 0, 0) 554 := zi_aload_n (by decide +kernel : decode zY_172.2.1 553 = .ok (.aload_n 3, 1)) rfl
theorem zf_zm_172_255 (env : List (Nat × Nat)) : zI9 172 zY_172 zm_172 env (554, 2, 0, 0, 0) 555 := zi_iconst (by decide +kernel : decode zY_172.2.1 554 = .ok (.iconst 0, 1)) (by decide +kernel)
theorem zf_zm_172_256 (env : List (Nat × Nat)) : zI9 172 zY_172 zm_172 env (555, 26, 0, 0, 0) 556 := zi_lald (by decide +kernel : decode zY_172.2.1 555 = .ok (.laload, 1))
theorem zf_zm_172_257 (env : List (Nat × Nat)) : zI9 172 zY_172 zm_172 env (556, 63, 6, 0, 0) 558 := zi_iload (by decide +kernel : decode zY_172.2.1 556 = .ok (.iload 6, 2))
theorem zf_zm_172_258 (env : List (Nat × Nat)) : zI9 172 zY_172 zm_172 env (558, 16, 0, 0, 0) 559 := zi_i2l (by decide +kernel : decode zY_172.2.1 558 = .ok (.i2l, 1))
theorem zf_zm_172_259 (env : List (Nat × Nat)) : zI9 172 zY_172 zm_172 env (559, 34, 0, 0, 0) 560 := zi_lcmp (by decide +kernel : decode zY_172.2.1 559 = .ok (.lcmp, 1))
theorem zf_zm_172_260 (env : List (Nat × Nat)) : zI9 172 zY_172 zm_172 env (560, 5, 262, 0, 0) 563 := zi_if_eq (off := 5) (t := 565) (by decide +kernel : decode zY_172.2.1 560 = .ok (.ifCond .eq 5, 3)) (by decide) (by decide +kernel)
theorem zf_zm_172_261 (env : List (Nat × Nat)) : zI9 172 zY_172 zm_172 env (563, 99, 0, 0, 0) 565 := zi_none
theorem zf_zm_172_262 (env : List (Nat × Nat)) : zI9 172 zY_172 zm_172 env (565, 7, 1145, 0, 0) 568 := zi_goto (off := 1463) (t := 2028) (by decide +kernel : decode zY_172.2.1 565 = .ok (.goto 1463, 3)) (by decide) (by decide +kernel)
theorem zf_zm_172_263 (env : List (Nat × Nat)) : zI9 172 zY_172 zm_172 env (568, 0, 1, 0, 0) 569 := zi_aload_n (by decide +kernel : decode zY_172.2.1 568 = .ok (.aload_n 1, 1)) rfl
theorem zf_zm_172_264 (env : List (Nat × Nat)) : zI9 172 zY_172 zm_172 env (569, 0, 0, 0, 0) 570 := zi_aload_n (by decide +kernel : decode zY_172.2.1 569 = .ok (.aload_n 0, 1)) rfl
theorem zf_zm_172_265 (env : List (Nat × Nat)) : zI9 172 zY_172 zm_172 env (570, 63, 4, 0, 0) 572 := zi_iload (by decide +kernel : decode zY_172.2.1 570 = .ok (.iload 4, 2))
theorem zf_zm_172_266 (env : List (Nat × Nat)) : zI9 172 zY_172 zm_172 env (572, 2, 1, 0, 0) 573 := zi_iconst (by decide +kernel : decode zY_172.2.1 572 = .ok (.iconst 1, 1)) (by decide +kernel)
theorem zf_zm_172_267 (env : List (Nat × Nat)) : zI9 172 zY_172 zm_172 env (573, 9, 0, 0, 0) 574 := zi_iadd (by decide +kernel : decode zY_172.2.1 573 = .ok (.iadd, 1))
theorem zf_zm_172_268 (env : List (Nat × Nat)) : zI9 172 zY_172 zm_172 env (574, 8, 0, 0, 0) 575 := zi_iald (zscr_ok (by decide +kernel : decode zY_172.2.1 574 = .ok (.iaload, 1))) (by decide +kernel : decode zY_172.2.1 574 = .ok (.iaload, 1))
theorem zf_zm_172_269 (env : List (Nat × Nat)) : zI9 172 zY_172 zm_172 env (575, 0, 0, 0, 0) 576 := zi_aload_n (by decide +kernel : decode zY_172.2.1 575 = .ok (.aload_n 0, 1)) rfl
theorem zf_zm_172_270 (env : List (Nat × Nat)) : zI9 172 zY_172 zm_172 env (576, 63, 4, 0, 0) 578 := zi_iload (by decide +kernel : decode zY_172.2.1 576 = .ok (.iload 4, 2))
theorem zf_zm_172_271 (env : List (Nat × Nat)) : zI9 172 zY_172 zm_172 env (578, 2, 2, 0, 0) 579 := zi_iconst (by decide +kernel : decode zY_172.2.1 578 = .ok (.iconst 2, 1)) (by decide +kernel)
theorem zf_zm_172_272 (env : List (Nat × Nat)) : zI9 172 zY_172 zm_172 env (579, 9, 0, 0, 0) 580 := zi_iadd (by decide +kernel : decode zY_172.2.1 579 = .ok (.iadd, 1))
theorem zf_zm_172_273 (env : List (Nat × Nat)) : zI9 172 zY_172 zm_172 env (580, 8, 0, 0, 0) 581 := zi_iald (zscr_ok (by decide +kernel : decode zY_172.2.1 580 = .ok (.iaload, 1))) (by decide +kernel : decode zY_172.2.1 580 = .ok (.iaload, 1))
theorem zf_zm_172_274 (env : List (Nat × Nat)) : zI9 172 zY_172 zm_172 env (581, 0, 3, 0, 0) 582 := zi_aload_n (by decide +kernel : decode zY_172.2.1 581 = .ok (.aload_n 3, 1)) rfl
theorem zf_zm_172_275 (env : List (Nat × Nat)) : zC9 172 zm_172 env (582, 66, 149, 261, 0) := zi_call (by decide +kernel) (zr_SW (i := 149) zX_ok rfl (zgood_149) (by decide +kernel) (zw_T zwd_781) (zw_T zwd_820) (zw_T zwd_821) ⟨by decide +kernel, by decide +kernel, by decide +kernel⟩ (by decide +kernel : decode (zYf 172).2.1 582 = .ok (.invokestatic 149, 3)))
theorem zf_zm_172_276 (env : List (Nat × Nat)) : zI9 172 zY_172 zm_172 env (585, 10, 5, 0, 0) 587 := zi_istore (by decide +kernel : decode zY_172.2.1 585 = .ok (.istore 5, 2)) (by decide)
theorem zf_zm_172_277 (env : List (Nat × Nat)) : zI9 172 zY_172 zm_172 env (587, 0, 2, 0, 0) 588 := zi_aload_n (by decide +kernel : decode zY_172.2.1 587 = .ok (.aload_n 2, 1)) rfl
theorem zf_zm_172_278 (env : List (Nat × Nat)) : zI9 172 zY_172 zm_172 env (588, 0, 0, 0, 0) 589 := zi_aload_n (by decide +kernel : decode zY_172.2.1 588 = .ok (.aload_n 0, 1)) rfl
theorem zf_zm_172_279 (env : List (Nat × Nat)) : zI9 172 zY_172 zm_172 env (589, 63, 4, 0, 0) 591 := zi_iload (by decide +kernel : decode zY_172.2.1 589 = .ok (.iload 4, 2))
theorem zf_zm_172_280 (env : List (Nat × Nat)) : zI9 172 zY_172 zm_172 env (591, 2, 1, 0, 0) 592 := zi_iconst (by decide +kernel : decode zY_172.2.1 591 = .ok (.iconst 1, 1)) (by decide +kernel)
theorem zf_zm_172_281 (env : List (Nat × Nat)) : zI9 172 zY_172 zm_172 env (592, 9, 0, 0, 0) 593 := zi_iadd (by decide +kernel : decode zY_172.2.1 592 = .ok (.iadd, 1))
theorem zf_zm_172_282 (env : List (Nat × Nat)) : zI9 172 zY_172 zm_172 env (593, 8, 0, 0, 0) 594 := zi_iald (zscr_ok (by decide +kernel : decode zY_172.2.1 593 = .ok (.iaload, 1))) (by decide +kernel : decode zY_172.2.1 593 = .ok (.iaload, 1))
theorem zf_zm_172_283 (env : List (Nat × Nat)) : zI9 172 zY_172 zm_172 env (594, 0, 0, 0, 0) 595 := zi_aload_n (by decide +kernel : decode zY_172.2.1 594 = .ok (.aload_n 0, 1)) rfl
theorem zf_zm_172_284 (env : List (Nat × Nat)) : zI9 172 zY_172 zm_172 env (595, 63, 4, 0, 0) 597 := zi_iload (by decide +kernel : decode zY_172.2.1 595 = .ok (.iload 4, 2))
theorem zf_zm_172_285 (env : List (Nat × Nat)) : zI9 172 zY_172 zm_172 env (597, 2, 2, 0, 0) 598 := zi_iconst (by decide +kernel : decode zY_172.2.1 597 = .ok (.iconst 2, 1)) (by decide +kernel)
theorem zf_zm_172_286 (env : List (Nat × Nat)) : zI9 172 zY_172 zm_172 env (598, 9, 0, 0, 0) 599 := zi_iadd (by decide +kernel : decode zY_172.2.1 598 = .ok (.iadd, 1))
theorem zf_zm_172_287 (env : List (Nat × Nat)) : zI9 172 zY_172 zm_172 env (599, 8, 0, 0, 0) 600 := zi_iald (zscr_ok (by decide +kernel : decode zY_172.2.1 599 = .ok (.iaload, 1))) (by decide +kernel : decode zY_172.2.1 599 = .ok (.iaload, 1))
theorem zf_zm_172_288 (env : List (Nat × Nat)) : zC9 172 zm_172 env (600, 66, 53, 196, 3) := zi_call (by decide +kernel) (zr_V (i := 152) (n := 2) (q := ("TransportPairModel", zF_1, 23)) zX_ok rfl (zgood_53) (by decide +kernel) (zw_T zwd_250) (zw_T zwd_822) (zw_T zwd_823) rfl (zw_T zwd_824) ⟨by decide +kernel, by decide +kernel, by decide +kernel⟩ rfl (by decide +kernel : decode (zYf 172).2.1 600 = .ok (.invokevirtual 152, 3)))
theorem zf_zm_172_289 (env : List (Nat × Nat)) : zI9 172 zY_172 zm_172 env (603, 10, 6, 0, 0) 605 := zi_istore (by decide +kernel : decode zY_172.2.1 603 = .ok (.istore 6, 2)) (by decide)
theorem zf_zm_172_290 (env : List (Nat × Nat)) : zI9 172 zY_172 zm_172 env (605, 0, 2, 0, 0) 606 := zi_aload_n (by decide +kernel : decode zY_172.2.1 605 = .ok (.aload_n 2, 1)) rfl
theorem zf_zm_172_291 (env : List (Nat × Nat)) : zC9 172 zm_172 env (606, 66, 43, 65, 3) := zi_call (by decide +kernel) (zr_V (i := 122) (n := 0) (q := ("TransportPairModel", zF_1, 23)) zX_ok rfl (zgood_43) (by decide +kernel) (zw_T zwd_250) (zw_T zwd_787) (zw_T zwd_788) rfl (zw_T zwd_789) ⟨by decide +kernel, by decide +kernel, by decide +kernel⟩ rfl (by decide +kernel : decode (zYf 172).2.1 606 = .ok (.invokevirtual 122, 3)))
theorem zf_zm_172_292 (env : List (Nat × Nat)) : zI9 172 zY_172 zm_172 env (609, 63, 5, 0, 0) 611 := zi_iload (by decide +kernel : decode zY_172.2.1 609 = .ok (.iload 5, 2))
theorem zf_zm_172_293 (env : List (Nat × Nat)) : zI9 172 zY_172 zm_172 env (611, 20, 295, 0, 0) 614 := zi_icmp_eq (off := 5) (t := 616) (by decide +kernel : decode zY_172.2.1 611 = .ok (.if_icmp .eq 5, 3)) (by decide) (by decide +kernel)
theorem zf_zm_172_294 (env : List (Nat × Nat)) : zI9 172 zY_172 zm_172 env (614, 99, 0, 0, 0) 616 := zi_none
theorem zf_zm_172_295 (env : List (Nat × Nat)) : zI9 172 zY_172 zm_172 env (616, 63, 5, 0, 0) 618 := zi_iload (by decide +kernel : decode zY_172.2.1 616 = .ok (.iload 5, 2))
theorem zf_zm_172_296 (env : List (Nat × Nat)) : zI9 172 zY_172 zm_172 env (618, 6, 305, 0, 0) 621 := zi_if_ne (off := 15) (t := 633) (by decide +kernel : decode zY_172.2.1 618 = .ok (.ifCond .ne 15, 3)) (by decide) (by decide +kernel)
theorem zf_zm_172_297 (env : List (Nat × Nat)) : zI9 172 zY_172 zm_172 env (621, 0, 3, 0, 0) 622 := zi_aload_n (by decide +kernel : decode zY_172.2.1 621 = .ok (.aload_n 3, 1)) rfl
theorem zf_zm_172_298 (env : List (Nat × Nat)) : zI9 172 zY_172 zm_172 env (622, 2, 0, 0, 0) 623 := zi_iconst (by decide +kernel : decode zY_172.2.1 622 = .ok (.iconst 0, 1)) (by decide +kernel)
theorem zf_zm_172_299 (env : List (Nat × Nat)) : zI9 172 zY_172 zm_172 env (623, 26, 0, 0, 0) 624 := zi_lald (by decide +kernel : decode zY_172.2.1 623 = .ok (.laload, 1))
theorem zf_zm_172_300 (env : List (Nat × Nat)) : zI9 172 zY_172 zm_172 env (624, 63, 6, 0, 0) 626 := zi_iload (by decide +kernel : decode zY_172.2.1 624 = .ok (.iload 6, 2))
theorem zf_zm_172_301 (env : List (Nat × Nat)) : zI9 172 zY_172 zm_172 env (626, 16, 0, 0, 0) 627 := zi_i2l (by decide +kernel : decode zY_172.2.1 626 = .ok (.i2l, 1))
theorem zf_zm_172_302 (env : List (Nat × Nat)) : zI9 172 zY_172 zm_172 env (627, 34, 0, 0, 0) 628 := zi_lcmp (by decide +kernel : decode zY_172.2.1 627 = .ok (.lcmp, 1))
theorem zf_zm_172_303 (env : List (Nat × Nat)) : zI9 172 zY_172 zm_172 env (628, 5, 305, 0, 0) 631 := zi_if_eq (off := 5) (t := 633) (by decide +kernel : decode zY_172.2.1 628 = .ok (.ifCond .eq 5, 3)) (by decide) (by decide +kernel)
theorem zf_zm_172_304 (env : List (Nat × Nat)) : zI9 172 zY_172 zm_172 env (631, 99, 0, 0, 0) 633 := zi_none
theorem zf_zm_172_305 (env : List (Nat × Nat)) : zI9 172 zY_172 zm_172 env (633, 7, 1145, 0, 0) 636 := zi_goto (off := 1395) (t := 2028) (by decide +kernel : decode zY_172.2.1 633 = .ok (.goto 1395, 3)) (by decide) (by decide +kernel)
theorem zf_zm_172_306 (env : List (Nat × Nat)) : zI9 172 zY_172 zm_172 env (636, 0, 1, 0, 0) 637 := zi_aload_n (by decide +kernel : decode zY_172.2.1 636 = .ok (.aload_n 1, 1)) rfl
theorem zf_zm_172_307 (env : List (Nat × Nat)) : zI9 172 zY_172 zm_172 env (637, 0, 0, 0, 0) 638 := zi_aload_n (by decide +kernel : decode zY_172.2.1 637 = .ok (.aload_n 0, 1)) rfl
theorem zf_zm_172_308 (env : List (Nat × Nat)) : zI9 172 zY_172 zm_172 env (638, 63, 4, 0, 0) 640 := zi_iload (by decide +kernel : decode zY_172.2.1 638 = .ok (.iload 4, 2))
theorem zf_zm_172_309 (env : List (Nat × Nat)) : zI9 172 zY_172 zm_172 env (640, 2, 1, 0, 0) 641 := zi_iconst (by decide +kernel : decode zY_172.2.1 640 = .ok (.iconst 1, 1)) (by decide +kernel)
theorem zf_zm_172_310 (env : List (Nat × Nat)) : zI9 172 zY_172 zm_172 env (641, 9, 0, 0, 0) 642 := zi_iadd (by decide +kernel : decode zY_172.2.1 641 = .ok (.iadd, 1))
theorem zf_zm_172_311 (env : List (Nat × Nat)) : zI9 172 zY_172 zm_172 env (642, 8, 0, 0, 0) 643 := zi_iald (zscr_ok (by decide +kernel : decode zY_172.2.1 642 = .ok (.iaload, 1))) (by decide +kernel : decode zY_172.2.1 642 = .ok (.iaload, 1))
theorem zf_zm_172_312 (env : List (Nat × Nat)) : zI9 172 zY_172 zm_172 env (643, 0, 0, 0, 0) 644 := zi_aload_n (by decide +kernel : decode zY_172.2.1 643 = .ok (.aload_n 0, 1)) rfl
theorem zf_zm_172_313 (env : List (Nat × Nat)) : zI9 172 zY_172 zm_172 env (644, 63, 4, 0, 0) 646 := zi_iload (by decide +kernel : decode zY_172.2.1 644 = .ok (.iload 4, 2))
theorem zf_zm_172_314 (env : List (Nat × Nat)) : zI9 172 zY_172 zm_172 env (646, 2, 2, 0, 0) 647 := zi_iconst (by decide +kernel : decode zY_172.2.1 646 = .ok (.iconst 2, 1)) (by decide +kernel)
theorem zf_zm_172_315 (env : List (Nat × Nat)) : zI9 172 zY_172 zm_172 env (647, 9, 0, 0, 0) 648 := zi_iadd (by decide +kernel : decode zY_172.2.1 647 = .ok (.iadd, 1))
theorem zf_zm_172_316 (env : List (Nat × Nat)) : zI9 172 zY_172 zm_172 env (648, 8, 0, 0, 0) 649 := zi_iald (zscr_ok (by decide +kernel : decode zY_172.2.1 648 = .ok (.iaload, 1))) (by decide +kernel : decode zY_172.2.1 648 = .ok (.iaload, 1))
theorem zf_zm_172_317 (env : List (Nat × Nat)) : zI9 172 zY_172 zm_172 env (649, 0, 3, 0, 0) 650 := zi_aload_n (by decide +kernel : decode zY_172.2.1 649 = .ok (.aload_n 3, 1)) rfl
theorem zf_zm_172_318 (env : List (Nat × Nat)) : zC9 172 zm_172 env (650, 66, 150, 261, 0) := zi_call (by decide +kernel) (zr_SW (i := 153) zX_ok rfl (zgood_150) (by decide +kernel) (zw_T zwd_781) (zw_T zwd_825) (zw_T zwd_826) ⟨by decide +kernel, by decide +kernel, by decide +kernel⟩ (by decide +kernel : decode (zYf 172).2.1 650 = .ok (.invokestatic 153, 3)))
theorem zf_zm_172_319 (env : List (Nat × Nat)) : zI9 172 zY_172 zm_172 env (653, 10, 5, 0, 0) 655 := zi_istore (by decide +kernel : decode zY_172.2.1 653 = .ok (.istore 5, 2)) (by decide)
theorem zf_zm_172_320 (env : List (Nat × Nat)) : zI9 172 zY_172 zm_172 env (655, 0, 2, 0, 0) 656 := zi_aload_n (by decide +kernel : decode zY_172.2.1 655 = .ok (.aload_n 2, 1)) rfl
theorem zf_zm_172_321 (env : List (Nat × Nat)) : zI9 172 zY_172 zm_172 env (656, 0, 0, 0, 0) 657 := zi_aload_n (by decide +kernel : decode zY_172.2.1 656 = .ok (.aload_n 0, 1)) rfl
theorem zf_zm_172_322 (env : List (Nat × Nat)) : zI9 172 zY_172 zm_172 env (657, 63, 4, 0, 0) 659 := zi_iload (by decide +kernel : decode zY_172.2.1 657 = .ok (.iload 4, 2))
theorem zf_zm_172_323 (env : List (Nat × Nat)) : zI9 172 zY_172 zm_172 env (659, 2, 1, 0, 0) 660 := zi_iconst (by decide +kernel : decode zY_172.2.1 659 = .ok (.iconst 1, 1)) (by decide +kernel)
theorem zf_zm_172_324 (env : List (Nat × Nat)) : zI9 172 zY_172 zm_172 env (660, 9, 0, 0, 0) 661 := zi_iadd (by decide +kernel : decode zY_172.2.1 660 = .ok (.iadd, 1))
theorem zf_zm_172_325 (env : List (Nat × Nat)) : zI9 172 zY_172 zm_172 env (661, 8, 0, 0, 0) 662 := zi_iald (zscr_ok (by decide +kernel : decode zY_172.2.1 661 = .ok (.iaload, 1))) (by decide +kernel : decode zY_172.2.1 661 = .ok (.iaload, 1))
theorem zf_zm_172_326 (env : List (Nat × Nat)) : zI9 172 zY_172 zm_172 env (662, 0, 0, 0, 0) 663 := zi_aload_n (by decide +kernel : decode zY_172.2.1 662 = .ok (.aload_n 0, 1)) rfl
theorem zf_zm_172_327 (env : List (Nat × Nat)) : zI9 172 zY_172 zm_172 env (663, 63, 4, 0, 0) 665 := zi_iload (by decide +kernel : decode zY_172.2.1 663 = .ok (.iload 4, 2))
theorem zf_zm_172_328 (env : List (Nat × Nat)) : zI9 172 zY_172 zm_172 env (665, 2, 2, 0, 0) 666 := zi_iconst (by decide +kernel : decode zY_172.2.1 665 = .ok (.iconst 2, 1)) (by decide +kernel)
theorem zf_zm_172_329 (env : List (Nat × Nat)) : zI9 172 zY_172 zm_172 env (666, 9, 0, 0, 0) 667 := zi_iadd (by decide +kernel : decode zY_172.2.1 666 = .ok (.iadd, 1))
theorem zf_zm_172_330 (env : List (Nat × Nat)) : zI9 172 zY_172 zm_172 env (667, 8, 0, 0, 0) 668 := zi_iald (zscr_ok (by decide +kernel : decode zY_172.2.1 667 = .ok (.iaload, 1))) (by decide +kernel : decode zY_172.2.1 667 = .ok (.iaload, 1))
theorem zf_zm_172_331 (env : List (Nat × Nat)) : zC9 172 zm_172 env (668, 66, 54, 195, 3) := zi_call (by decide +kernel) (zr_V (i := 155) (n := 2) (q := ("TransportPairModel", zF_1, 23)) zX_ok rfl (zgood_54) (by decide +kernel) (zw_T zwd_250) (zw_T zwd_827) (zw_T zwd_828) rfl (zw_T zwd_829) ⟨by decide +kernel, by decide +kernel, by decide +kernel⟩ rfl (by decide +kernel : decode (zYf 172).2.1 668 = .ok (.invokevirtual 155, 3)))
theorem zf_zm_172_332 (env : List (Nat × Nat)) : zI9 172 zY_172 zm_172 env (671, 10, 6, 0, 0) 673 := zi_istore (by decide +kernel : decode zY_172.2.1 671 = .ok (.istore 6, 2)) (by decide)
theorem zf_zm_172_333 (env : List (Nat × Nat)) : zI9 172 zY_172 zm_172 env (673, 0, 2, 0, 0) 674 := zi_aload_n (by decide +kernel : decode zY_172.2.1 673 = .ok (.aload_n 2, 1)) rfl
theorem zf_zm_172_334 (env : List (Nat × Nat)) : zC9 172 zm_172 env (674, 66, 43, 65, 3) := zi_call (by decide +kernel) (zr_V (i := 122) (n := 0) (q := ("TransportPairModel", zF_1, 23)) zX_ok rfl (zgood_43) (by decide +kernel) (zw_T zwd_250) (zw_T zwd_787) (zw_T zwd_788) rfl (zw_T zwd_789) ⟨by decide +kernel, by decide +kernel, by decide +kernel⟩ rfl (by decide +kernel : decode (zYf 172).2.1 674 = .ok (.invokevirtual 122, 3)))
theorem zf_zm_172_335 (env : List (Nat × Nat)) : zI9 172 zY_172 zm_172 env (677, 63, 5, 0, 0) 679 := zi_iload (by decide +kernel : decode zY_172.2.1 677 = .ok (.iload 5, 2))
theorem zf_zm_172_336 (env : List (Nat × Nat)) : zI9 172 zY_172 zm_172 env (679, 20, 338, 0, 0) 682 := zi_icmp_eq (off := 5) (t := 684) (by decide +kernel : decode zY_172.2.1 679 = .ok (.if_icmp .eq 5, 3)) (by decide) (by decide +kernel)
theorem zf_zm_172_337 (env : List (Nat × Nat)) : zI9 172 zY_172 zm_172 env (682, 99, 0, 0, 0) 684 := zi_none
theorem zf_zm_172_338 (env : List (Nat × Nat)) : zI9 172 zY_172 zm_172 env (684, 63, 5, 0, 0) 686 := zi_iload (by decide +kernel : decode zY_172.2.1 684 = .ok (.iload 5, 2))
theorem zf_zm_172_339 (env : List (Nat × Nat)) : zI9 172 zY_172 zm_172 env (686, 6, 350, 0, 0) 689 := zi_if_ne (off := 22) (t := 708) (by decide +kernel : decode zY_172.2.1 686 = .ok (.ifCond .ne 22, 3)) (by decide) (by decide +kernel)
theorem zf_zm_172_340 (env : List (Nat × Nat)) : zI9 172 zY_172 zm_172 env (689, 0, 3, 0, 0) 690 := zi_aload_n (by decide +kernel : decode zY_172.2.1 689 = .ok (.aload_n 3, 1)) rfl
theorem zf_zm_172_341 (env : List (Nat × Nat)) : zI9 172 zY_172 zm_172 env (690, 2, 0, 0, 0) 691 := zi_iconst (by decide +kernel : decode zY_172.2.1 690 = .ok (.iconst 0, 1)) (by decide +kernel)
theorem zf_zm_172_342 (env : List (Nat × Nat)) : zI9 172 zY_172 zm_172 env (691, 26, 0, 0, 0) 692 := zi_lald (by decide +kernel : decode zY_172.2.1 691 = .ok (.laload, 1))
theorem zf_zm_172_343 (env : List (Nat × Nat)) : zI9 172 zY_172 zm_172 env (692, 63, 6, 0, 0) 694 := zi_iload (by decide +kernel : decode zY_172.2.1 692 = .ok (.iload 6, 2))
theorem zf_zm_172_344 (env : List (Nat × Nat)) : zI9 172 zY_172 zm_172 env (694, 5, 346, 0, 0) 697 := zi_if_eq (off := 7) (t := 701) (by decide +kernel : decode zY_172.2.1 694 = .ok (.ifCond .eq 7, 3)) (by decide) (by decide +kernel)
theorem zf_zm_172_345 (env : List (Nat × Nat)) : zI9 172 zY_172 zm_172 env (697, 99, 0, 0, 0) 701 := zi_none
theorem zf_zm_172_346 (env : List (Nat × Nat)) : zI9 172 zY_172 zm_172 env (701, 15, 0, 0, 0) 702 := zi_lconst (by decide +kernel : decode zY_172.2.1 701 = .ok (.lconst 0, 1)) (by decide +kernel)
theorem zf_zm_172_347 (env : List (Nat × Nat)) : zI9 172 zY_172 zm_172 env (702, 34, 0, 0, 0) 703 := zi_lcmp (by decide +kernel : decode zY_172.2.1 702 = .ok (.lcmp, 1))
theorem zf_zm_172_348 (env : List (Nat × Nat)) : zI9 172 zY_172 zm_172 env (703, 5, 350, 0, 0) 706 := zi_if_eq (off := 5) (t := 708) (by decide +kernel : decode zY_172.2.1 703 = .ok (.ifCond .eq 5, 3)) (by decide) (by decide +kernel)
theorem zf_zm_172_349 (env : List (Nat × Nat)) : zI9 172 zY_172 zm_172 env (706, 99, 0, 0, 0) 708 := zi_none
theorem zf_zm_172_350 (env : List (Nat × Nat)) : zI9 172 zY_172 zm_172 env (708, 7, 1145, 0, 0) 711 := zi_goto (off := 1320) (t := 2028) (by decide +kernel : decode zY_172.2.1 708 = .ok (.goto 1320, 3)) (by decide) (by decide +kernel)
theorem zf_zm_172_351 (env : List (Nat × Nat)) : zI9 172 zY_172 zm_172 env (711, 0, 1, 0, 0) 712 := zi_aload_n (by decide +kernel : decode zY_172.2.1 711 = .ok (.aload_n 1, 1)) rfl
theorem zf_zm_172_352 (env : List (Nat × Nat)) : zI9 172 zY_172 zm_172 env (712, 0, 0, 0, 0) 713 := zi_aload_n (by decide +kernel : decode zY_172.2.1 712 = .ok (.aload_n 0, 1)) rfl
theorem zf_zm_172_353 (env : List (Nat × Nat)) : zI9 172 zY_172 zm_172 env (713, 63, 4, 0, 0) 715 := zi_iload (by decide +kernel : decode zY_172.2.1 713 = .ok (.iload 4, 2))
theorem zf_zm_172_354 (env : List (Nat × Nat)) : zI9 172 zY_172 zm_172 env (715, 2, 1, 0, 0) 716 := zi_iconst (by decide +kernel : decode zY_172.2.1 715 = .ok (.iconst 1, 1)) (by decide +kernel)
theorem zf_zm_172_355 (env : List (Nat × Nat)) : zI9 172 zY_172 zm_172 env (716, 9, 0, 0, 0) 717 := zi_iadd (by decide +kernel : decode zY_172.2.1 716 = .ok (.iadd, 1))
theorem zf_zm_172_356 (env : List (Nat × Nat)) : zI9 172 zY_172 zm_172 env (717, 8, 0, 0, 0) 718 := zi_iald (zscr_ok (by decide +kernel : decode zY_172.2.1 717 = .ok (.iaload, 1))) (by decide +kernel : decode zY_172.2.1 717 = .ok (.iaload, 1))
theorem zf_zm_172_357 (env : List (Nat × Nat)) : zI9 172 zY_172 zm_172 env (718, 0, 0, 0, 0) 719 := zi_aload_n (by decide +kernel : decode zY_172.2.1 718 = .ok (.aload_n 0, 1)) rfl
theorem zf_zm_172_358 (env : List (Nat × Nat)) : zI9 172 zY_172 zm_172 env (719, 63, 4, 0, 0) 721 := zi_iload (by decide +kernel : decode zY_172.2.1 719 = .ok (.iload 4, 2))
theorem zf_zm_172_359 (env : List (Nat × Nat)) : zI9 172 zY_172 zm_172 env (721, 2, 2, 0, 0) 722 := zi_iconst (by decide +kernel : decode zY_172.2.1 721 = .ok (.iconst 2, 1)) (by decide +kernel)
theorem zf_zm_172_360 (env : List (Nat × Nat)) : zI9 172 zY_172 zm_172 env (722, 9, 0, 0, 0) 723 := zi_iadd (by decide +kernel : decode zY_172.2.1 722 = .ok (.iadd, 1))
theorem zf_zm_172_361 (env : List (Nat × Nat)) : zI9 172 zY_172 zm_172 env (723, 8, 0, 0, 0) 724 := zi_iald (zscr_ok (by decide +kernel : decode zY_172.2.1 723 = .ok (.iaload, 1))) (by decide +kernel : decode zY_172.2.1 723 = .ok (.iaload, 1))
theorem zf_zm_172_362 (env : List (Nat × Nat)) : zI9 172 zY_172 zm_172 env (724, 0, 0, 0, 0) 725 := zi_aload_n (by decide +kernel : decode zY_172.2.1 724 = .ok (.aload_n 0, 1)) rfl
theorem zf_zm_172_363 (env : List (Nat × Nat)) : zI9 172 zY_172 zm_172 env (725, 63, 4, 0, 0) 727 := zi_iload (by decide +kernel : decode zY_172.2.1 725 = .ok (.iload 4, 2))
theorem zf_zm_172_364 (env : List (Nat × Nat)) : zI9 172 zY_172 zm_172 env (727, 2, 3, 0, 0) 728 := zi_iconst (by decide +kernel : decode zY_172.2.1 727 = .ok (.iconst 3, 1)) (by decide +kernel)
theorem zf_zm_172_365 (env : List (Nat × Nat)) : zI9 172 zY_172 zm_172 env (728, 9, 0, 0, 0) 729 := zi_iadd (by decide +kernel : decode zY_172.2.1 728 = .ok (.iadd, 1))
theorem zf_zm_172_366 (env : List (Nat × Nat)) : zI9 172 zY_172 zm_172 env (729, 8, 0, 0, 0) 730 := zi_iald (zscr_ok (by decide +kernel : decode zY_172.2.1 729 = .ok (.iaload, 1))) (by decide +kernel : decode zY_172.2.1 729 = .ok (.iaload, 1))
theorem zf_zm_172_367 (env : List (Nat × Nat)) : zI9 172 zY_172 zm_172 env (730, 0, 3, 0, 0) 731 := zi_aload_n (by decide +kernel : decode zY_172.2.1 730 = .ok (.aload_n 3, 1)) rfl
theorem zf_zm_172_368 (env : List (Nat × Nat)) : zC9 172 zm_172 env (731, 66, 151, 326, 0) := zi_call (by decide +kernel) (zr_SW (i := 156) zX_ok rfl (zgood_151) (by decide +kernel) (zw_T zwd_781) (zw_T zwd_830) (zw_T zwd_831) ⟨by decide +kernel, by decide +kernel, by decide +kernel⟩ (by decide +kernel : decode (zYf 172).2.1 731 = .ok (.invokestatic 156, 3)))
theorem zf_zm_172_369 (env : List (Nat × Nat)) : zI9 172 zY_172 zm_172 env (734, 10, 5, 0, 0) 736 := zi_istore (by decide +kernel : decode zY_172.2.1 734 = .ok (.istore 5, 2)) (by decide)
theorem zf_zm_172_370 (env : List (Nat × Nat)) : zI9 172 zY_172 zm_172 env (736, 0, 2, 0, 0) 737 := zi_aload_n (by decide +kernel : decode zY_172.2.1 736 = .ok (.aload_n 2, 1)) rfl
theorem zf_zm_172_371 (env : List (Nat × Nat)) : zI9 172 zY_172 zm_172 env (737, 0, 0, 0, 0) 738 := zi_aload_n (by decide +kernel : decode zY_172.2.1 737 = .ok (.aload_n 0, 1)) rfl
theorem zf_zm_172_372 (env : List (Nat × Nat)) : zI9 172 zY_172 zm_172 env (738, 63, 4, 0, 0) 740 := zi_iload (by decide +kernel : decode zY_172.2.1 738 = .ok (.iload 4, 2))
theorem zf_zm_172_373 (env : List (Nat × Nat)) : zI9 172 zY_172 zm_172 env (740, 2, 1, 0, 0) 741 := zi_iconst (by decide +kernel : decode zY_172.2.1 740 = .ok (.iconst 1, 1)) (by decide +kernel)
theorem zf_zm_172_374 (env : List (Nat × Nat)) : zI9 172 zY_172 zm_172 env (741, 9, 0, 0, 0) 742 := zi_iadd (by decide +kernel : decode zY_172.2.1 741 = .ok (.iadd, 1))
theorem zf_zm_172_375 (env : List (Nat × Nat)) : zI9 172 zY_172 zm_172 env (742, 8, 0, 0, 0) 743 := zi_iald (zscr_ok (by decide +kernel : decode zY_172.2.1 742 = .ok (.iaload, 1))) (by decide +kernel : decode zY_172.2.1 742 = .ok (.iaload, 1))
theorem zf_zm_172_376 (env : List (Nat × Nat)) : zI9 172 zY_172 zm_172 env (743, 0, 0, 0, 0) 744 := zi_aload_n (by decide +kernel : decode zY_172.2.1 743 = .ok (.aload_n 0, 1)) rfl
theorem zf_zm_172_377 (env : List (Nat × Nat)) : zI9 172 zY_172 zm_172 env (744, 63, 4, 0, 0) 746 := zi_iload (by decide +kernel : decode zY_172.2.1 744 = .ok (.iload 4, 2))
theorem zf_zm_172_378 (env : List (Nat × Nat)) : zI9 172 zY_172 zm_172 env (746, 2, 2, 0, 0) 747 := zi_iconst (by decide +kernel : decode zY_172.2.1 746 = .ok (.iconst 2, 1)) (by decide +kernel)
theorem zf_zm_172_379 (env : List (Nat × Nat)) : zI9 172 zY_172 zm_172 env (747, 9, 0, 0, 0) 748 := zi_iadd (by decide +kernel : decode zY_172.2.1 747 = .ok (.iadd, 1))
theorem zf_zm_172_380 (env : List (Nat × Nat)) : zI9 172 zY_172 zm_172 env (748, 8, 0, 0, 0) 749 := zi_iald (zscr_ok (by decide +kernel : decode zY_172.2.1 748 = .ok (.iaload, 1))) (by decide +kernel : decode zY_172.2.1 748 = .ok (.iaload, 1))
theorem zf_zm_172_381 (env : List (Nat × Nat)) : zI9 172 zY_172 zm_172 env (749, 0, 0, 0, 0) 750 := zi_aload_n (by decide +kernel : decode zY_172.2.1 749 = .ok (.aload_n 0, 1)) rfl
theorem zf_zm_172_382 (env : List (Nat × Nat)) : zI9 172 zY_172 zm_172 env (750, 63, 4, 0, 0) 752 := zi_iload (by decide +kernel : decode zY_172.2.1 750 = .ok (.iload 4, 2))
theorem zf_zm_172_383 (env : List (Nat × Nat)) : zI9 172 zY_172 zm_172 env (752, 2, 3, 0, 0) 753 := zi_iconst (by decide +kernel : decode zY_172.2.1 752 = .ok (.iconst 3, 1)) (by decide +kernel)
theorem zf_zm_172_384 (env : List (Nat × Nat)) : zI9 172 zY_172 zm_172 env (753, 9, 0, 0, 0) 754 := zi_iadd (by decide +kernel : decode zY_172.2.1 753 = .ok (.iadd, 1))
theorem zf_zm_172_385 (env : List (Nat × Nat)) : zI9 172 zY_172 zm_172 env (754, 8, 0, 0, 0) 755 := zi_iald (zscr_ok (by decide +kernel : decode zY_172.2.1 754 = .ok (.iaload, 1))) (by decide +kernel : decode zY_172.2.1 754 = .ok (.iaload, 1))
theorem zf_zm_172_386 (env : List (Nat × Nat)) : zC9 172 zm_172 env (755, 66, 55, 260, 3) := zi_call (by decide +kernel) (zr_V (i := 159) (n := 3) (q := ("TransportPairModel", zF_1, 23)) zX_ok rfl (zgood_55) (by decide +kernel) (zw_T zwd_250) (zw_T zwd_832) (zw_T zwd_833) rfl (zw_T zwd_834) ⟨by decide +kernel, by decide +kernel, by decide +kernel⟩ rfl (by decide +kernel : decode (zYf 172).2.1 755 = .ok (.invokevirtual 159, 3)))
theorem zf_zm_172_387 (env : List (Nat × Nat)) : zI9 172 zY_172 zm_172 env (758, 10, 6, 0, 0) 760 := zi_istore (by decide +kernel : decode zY_172.2.1 758 = .ok (.istore 6, 2)) (by decide)
theorem zf_zm_172_388 (env : List (Nat × Nat)) : zI9 172 zY_172 zm_172 env (760, 0, 2, 0, 0) 761 := zi_aload_n (by decide +kernel : decode zY_172.2.1 760 = .ok (.aload_n 2, 1)) rfl
theorem zf_zm_172_389 (env : List (Nat × Nat)) : zC9 172 zm_172 env (761, 66, 43, 65, 3) := zi_call (by decide +kernel) (zr_V (i := 122) (n := 0) (q := ("TransportPairModel", zF_1, 23)) zX_ok rfl (zgood_43) (by decide +kernel) (zw_T zwd_250) (zw_T zwd_787) (zw_T zwd_788) rfl (zw_T zwd_789) ⟨by decide +kernel, by decide +kernel, by decide +kernel⟩ rfl (by decide +kernel : decode (zYf 172).2.1 761 = .ok (.invokevirtual 122, 3)))
theorem zf_zm_172_390 (env : List (Nat × Nat)) : zI9 172 zY_172 zm_172 env (764, 63, 5, 0, 0) 766 := zi_iload (by decide +kernel : decode zY_172.2.1 764 = .ok (.iload 5, 2))
theorem zf_zm_172_391 (env : List (Nat × Nat)) : zI9 172 zY_172 zm_172 env (766, 20, 393, 0, 0) 769 := zi_icmp_eq (off := 5) (t := 771) (by decide +kernel : decode zY_172.2.1 766 = .ok (.if_icmp .eq 5, 3)) (by decide) (by decide +kernel)
theorem zf_zm_172_392 (env : List (Nat × Nat)) : zI9 172 zY_172 zm_172 env (769, 99, 0, 0, 0) 771 := zi_none
theorem zf_zm_172_393 (env : List (Nat × Nat)) : zI9 172 zY_172 zm_172 env (771, 63, 5, 0, 0) 773 := zi_iload (by decide +kernel : decode zY_172.2.1 771 = .ok (.iload 5, 2))
theorem zf_zm_172_394 (env : List (Nat × Nat)) : zI9 172 zY_172 zm_172 env (773, 6, 405, 0, 0) 776 := zi_if_ne (off := 22) (t := 795) (by decide +kernel : decode zY_172.2.1 773 = .ok (.ifCond .ne 22, 3)) (by decide) (by decide +kernel)
theorem zf_zm_172_395 (env : List (Nat × Nat)) : zI9 172 zY_172 zm_172 env (776, 0, 3, 0, 0) 777 := zi_aload_n (by decide +kernel : decode zY_172.2.1 776 = .ok (.aload_n 3, 1)) rfl
theorem zf_zm_172_396 (env : List (Nat × Nat)) : zI9 172 zY_172 zm_172 env (777, 2, 0, 0, 0) 778 := zi_iconst (by decide +kernel : decode zY_172.2.1 777 = .ok (.iconst 0, 1)) (by decide +kernel)
theorem zf_zm_172_397 (env : List (Nat × Nat)) : zI9 172 zY_172 zm_172 env (778, 26, 0, 0, 0) 779 := zi_lald (by decide +kernel : decode zY_172.2.1 778 = .ok (.laload, 1))
theorem zf_zm_172_398 (env : List (Nat × Nat)) : zI9 172 zY_172 zm_172 env (779, 63, 6, 0, 0) 781 := zi_iload (by decide +kernel : decode zY_172.2.1 779 = .ok (.iload 6, 2))
theorem zf_zm_172_399 (env : List (Nat × Nat)) : zI9 172 zY_172 zm_172 env (781, 5, 401, 0, 0) 784 := zi_if_eq (off := 7) (t := 788) (by decide +kernel : decode zY_172.2.1 781 = .ok (.ifCond .eq 7, 3)) (by decide) (by decide +kernel)
theorem zf_zm_172_400 (env : List (Nat × Nat)) : zI9 172 zY_172 zm_172 env (784, 99, 0, 0, 0) 788 := zi_none
theorem zf_zm_172_401 (env : List (Nat × Nat)) : zI9 172 zY_172 zm_172 env (788, 15, 0, 0, 0) 789 := zi_lconst (by decide +kernel : decode zY_172.2.1 788 = .ok (.lconst 0, 1)) (by decide +kernel)
theorem zf_zm_172_402 (env : List (Nat × Nat)) : zI9 172 zY_172 zm_172 env (789, 34, 0, 0, 0) 790 := zi_lcmp (by decide +kernel : decode zY_172.2.1 789 = .ok (.lcmp, 1))
theorem zf_zm_172_403 (env : List (Nat × Nat)) : zI9 172 zY_172 zm_172 env (790, 5, 405, 0, 0) 793 := zi_if_eq (off := 5) (t := 795) (by decide +kernel : decode zY_172.2.1 790 = .ok (.ifCond .eq 5, 3)) (by decide) (by decide +kernel)
theorem zf_zm_172_404 (env : List (Nat × Nat)) : zI9 172 zY_172 zm_172 env (793, 99, 0, 0, 0) 795 := zi_none
theorem zf_zm_172_405 (env : List (Nat × Nat)) : zI9 172 zY_172 zm_172 env (795, 7, 1145, 0, 0) 798 := zi_goto (off := 1233) (t := 2028) (by decide +kernel : decode zY_172.2.1 795 = .ok (.goto 1233, 3)) (by decide) (by decide +kernel)
theorem zf_zm_172_406 (env : List (Nat × Nat)) : zI9 172 zY_172 zm_172 env (798, 0, 1, 0, 0) 799 := zi_aload_n (by decide +kernel : decode zY_172.2.1 798 = .ok (.aload_n 1, 1)) rfl
theorem zf_zm_172_407 (env : List (Nat × Nat)) : zI9 172 zY_172 zm_172 env (799, 0, 0, 0, 0) 800 := zi_aload_n (by decide +kernel : decode zY_172.2.1 799 = .ok (.aload_n 0, 1)) rfl
theorem zf_zm_172_408 (env : List (Nat × Nat)) : zI9 172 zY_172 zm_172 env (800, 63, 4, 0, 0) 802 := zi_iload (by decide +kernel : decode zY_172.2.1 800 = .ok (.iload 4, 2))
theorem zf_zm_172_409 (env : List (Nat × Nat)) : zI9 172 zY_172 zm_172 env (802, 2, 1, 0, 0) 803 := zi_iconst (by decide +kernel : decode zY_172.2.1 802 = .ok (.iconst 1, 1)) (by decide +kernel)
theorem zf_zm_172_410 (env : List (Nat × Nat)) : zI9 172 zY_172 zm_172 env (803, 9, 0, 0, 0) 804 := zi_iadd (by decide +kernel : decode zY_172.2.1 803 = .ok (.iadd, 1))
theorem zf_zm_172_411 (env : List (Nat × Nat)) : zI9 172 zY_172 zm_172 env (804, 8, 0, 0, 0) 805 := zi_iald (zscr_ok (by decide +kernel : decode zY_172.2.1 804 = .ok (.iaload, 1))) (by decide +kernel : decode zY_172.2.1 804 = .ok (.iaload, 1))
theorem zf_zm_172_412 (env : List (Nat × Nat)) : zI9 172 zY_172 zm_172 env (805, 0, 0, 0, 0) 806 := zi_aload_n (by decide +kernel : decode zY_172.2.1 805 = .ok (.aload_n 0, 1)) rfl
theorem zf_zm_172_413 (env : List (Nat × Nat)) : zI9 172 zY_172 zm_172 env (806, 63, 4, 0, 0) 808 := zi_iload (by decide +kernel : decode zY_172.2.1 806 = .ok (.iload 4, 2))
theorem zf_zm_172_414 (env : List (Nat × Nat)) : zI9 172 zY_172 zm_172 env (808, 2, 2, 0, 0) 809 := zi_iconst (by decide +kernel : decode zY_172.2.1 808 = .ok (.iconst 2, 1)) (by decide +kernel)
theorem zf_zm_172_415 (env : List (Nat × Nat)) : zI9 172 zY_172 zm_172 env (809, 9, 0, 0, 0) 810 := zi_iadd (by decide +kernel : decode zY_172.2.1 809 = .ok (.iadd, 1))
theorem zf_zm_172_416 (env : List (Nat × Nat)) : zI9 172 zY_172 zm_172 env (810, 8, 0, 0, 0) 811 := zi_iald (zscr_ok (by decide +kernel : decode zY_172.2.1 810 = .ok (.iaload, 1))) (by decide +kernel : decode zY_172.2.1 810 = .ok (.iaload, 1))
theorem zf_zm_172_417 (env : List (Nat × Nat)) : zI9 172 zY_172 zm_172 env (811, 0, 0, 0, 0) 812 := zi_aload_n (by decide +kernel : decode zY_172.2.1 811 = .ok (.aload_n 0, 1)) rfl
theorem zf_zm_172_418 (env : List (Nat × Nat)) : zI9 172 zY_172 zm_172 env (812, 63, 4, 0, 0) 814 := zi_iload (by decide +kernel : decode zY_172.2.1 812 = .ok (.iload 4, 2))
theorem zf_zm_172_419 (env : List (Nat × Nat)) : zI9 172 zY_172 zm_172 env (814, 2, 3, 0, 0) 815 := zi_iconst (by decide +kernel : decode zY_172.2.1 814 = .ok (.iconst 3, 1)) (by decide +kernel)
theorem zf_zm_172_420 (env : List (Nat × Nat)) : zI9 172 zY_172 zm_172 env (815, 9, 0, 0, 0) 816 := zi_iadd (by decide +kernel : decode zY_172.2.1 815 = .ok (.iadd, 1))
theorem zf_zm_172_421 (env : List (Nat × Nat)) : zI9 172 zY_172 zm_172 env (816, 8, 0, 0, 0) 817 := zi_iald (zscr_ok (by decide +kernel : decode zY_172.2.1 816 = .ok (.iaload, 1))) (by decide +kernel : decode zY_172.2.1 816 = .ok (.iaload, 1))
theorem zf_zm_172_422 (env : List (Nat × Nat)) : zI9 172 zY_172 zm_172 env (817, 0, 3, 0, 0) 818 := zi_aload_n (by decide +kernel : decode zY_172.2.1 817 = .ok (.aload_n 3, 1)) rfl
theorem zf_zm_172_423 (env : List (Nat × Nat)) : zC9 172 zm_172 env (818, 66, 152, 326, 0) := zi_call (by decide +kernel) (zr_SW (i := 160) zX_ok rfl (zgood_152) (by decide +kernel) (zw_T zwd_781) (zw_T zwd_835) (zw_T zwd_836) ⟨by decide +kernel, by decide +kernel, by decide +kernel⟩ (by decide +kernel : decode (zYf 172).2.1 818 = .ok (.invokestatic 160, 3)))
theorem zf_zm_172_424 (env : List (Nat × Nat)) : zI9 172 zY_172 zm_172 env (821, 10, 5, 0, 0) 823 := zi_istore (by decide +kernel : decode zY_172.2.1 821 = .ok (.istore 5, 2)) (by decide)
theorem zf_zm_172_425 (env : List (Nat × Nat)) : zI9 172 zY_172 zm_172 env (823, 0, 2, 0, 0) 824 := zi_aload_n (by decide +kernel : decode zY_172.2.1 823 = .ok (.aload_n 2, 1)) rfl
theorem zf_zm_172_426 (env : List (Nat × Nat)) : zI9 172 zY_172 zm_172 env (824, 0, 0, 0, 0) 825 := zi_aload_n (by decide +kernel : decode zY_172.2.1 824 = .ok (.aload_n 0, 1)) rfl
theorem zf_zm_172_427 (env : List (Nat × Nat)) : zI9 172 zY_172 zm_172 env (825, 63, 4, 0, 0) 827 := zi_iload (by decide +kernel : decode zY_172.2.1 825 = .ok (.iload 4, 2))
theorem zf_zm_172_428 (env : List (Nat × Nat)) : zI9 172 zY_172 zm_172 env (827, 2, 1, 0, 0) 828 := zi_iconst (by decide +kernel : decode zY_172.2.1 827 = .ok (.iconst 1, 1)) (by decide +kernel)
theorem zf_zm_172_429 (env : List (Nat × Nat)) : zI9 172 zY_172 zm_172 env (828, 9, 0, 0, 0) 829 := zi_iadd (by decide +kernel : decode zY_172.2.1 828 = .ok (.iadd, 1))
theorem zf_zm_172_430 (env : List (Nat × Nat)) : zI9 172 zY_172 zm_172 env (829, 8, 0, 0, 0) 830 := zi_iald (zscr_ok (by decide +kernel : decode zY_172.2.1 829 = .ok (.iaload, 1))) (by decide +kernel : decode zY_172.2.1 829 = .ok (.iaload, 1))
theorem zf_zm_172_431 (env : List (Nat × Nat)) : zI9 172 zY_172 zm_172 env (830, 0, 0, 0, 0) 831 := zi_aload_n (by decide +kernel : decode zY_172.2.1 830 = .ok (.aload_n 0, 1)) rfl
theorem zf_zm_172_432 (env : List (Nat × Nat)) : zI9 172 zY_172 zm_172 env (831, 63, 4, 0, 0) 833 := zi_iload (by decide +kernel : decode zY_172.2.1 831 = .ok (.iload 4, 2))
theorem zf_zm_172_433 (env : List (Nat × Nat)) : zI9 172 zY_172 zm_172 env (833, 2, 2, 0, 0) 834 := zi_iconst (by decide +kernel : decode zY_172.2.1 833 = .ok (.iconst 2, 1)) (by decide +kernel)
theorem zf_zm_172_434 (env : List (Nat × Nat)) : zI9 172 zY_172 zm_172 env (834, 9, 0, 0, 0) 835 := zi_iadd (by decide +kernel : decode zY_172.2.1 834 = .ok (.iadd, 1))
theorem zf_zm_172_435 (env : List (Nat × Nat)) : zI9 172 zY_172 zm_172 env (835, 8, 0, 0, 0) 836 := zi_iald (zscr_ok (by decide +kernel : decode zY_172.2.1 835 = .ok (.iaload, 1))) (by decide +kernel : decode zY_172.2.1 835 = .ok (.iaload, 1))
theorem zf_zm_172_436 (env : List (Nat × Nat)) : zI9 172 zY_172 zm_172 env (836, 0, 0, 0, 0) 837 := zi_aload_n (by decide +kernel : decode zY_172.2.1 836 = .ok (.aload_n 0, 1)) rfl
theorem zf_zm_172_437 (env : List (Nat × Nat)) : zI9 172 zY_172 zm_172 env (837, 63, 4, 0, 0) 839 := zi_iload (by decide +kernel : decode zY_172.2.1 837 = .ok (.iload 4, 2))
theorem zf_zm_172_438 (env : List (Nat × Nat)) : zI9 172 zY_172 zm_172 env (839, 2, 3, 0, 0) 840 := zi_iconst (by decide +kernel : decode zY_172.2.1 839 = .ok (.iconst 3, 1)) (by decide +kernel)
theorem zf_zm_172_439 (env : List (Nat × Nat)) : zI9 172 zY_172 zm_172 env (840, 9, 0, 0, 0) 841 := zi_iadd (by decide +kernel : decode zY_172.2.1 840 = .ok (.iadd, 1))
theorem zf_zm_172_440 (env : List (Nat × Nat)) : zI9 172 zY_172 zm_172 env (841, 8, 0, 0, 0) 842 := zi_iald (zscr_ok (by decide +kernel : decode zY_172.2.1 841 = .ok (.iaload, 1))) (by decide +kernel : decode zY_172.2.1 841 = .ok (.iaload, 1))
theorem zf_zm_172_441 (env : List (Nat × Nat)) : zC9 172 zm_172 env (842, 66, 56, 260, 3) := zi_call (by decide +kernel) (zr_V (i := 162) (n := 3) (q := ("TransportPairModel", zF_1, 23)) zX_ok rfl (zgood_56) (by decide +kernel) (zw_T zwd_250) (zw_T zwd_837) (zw_T zwd_838) rfl (zw_T zwd_839) ⟨by decide +kernel, by decide +kernel, by decide +kernel⟩ rfl (by decide +kernel : decode (zYf 172).2.1 842 = .ok (.invokevirtual 162, 3)))
theorem zf_zm_172_442 (env : List (Nat × Nat)) : zI9 172 zY_172 zm_172 env (845, 10, 6, 0, 0) 847 := zi_istore (by decide +kernel : decode zY_172.2.1 845 = .ok (.istore 6, 2)) (by decide)
theorem zf_zm_172_443 (env : List (Nat × Nat)) : zI9 172 zY_172 zm_172 env (847, 0, 2, 0, 0) 848 := zi_aload_n (by decide +kernel : decode zY_172.2.1 847 = .ok (.aload_n 2, 1)) rfl
theorem zf_zm_172_444 (env : List (Nat × Nat)) : zC9 172 zm_172 env (848, 66, 43, 65, 3) := zi_call (by decide +kernel) (zr_V (i := 122) (n := 0) (q := ("TransportPairModel", zF_1, 23)) zX_ok rfl (zgood_43) (by decide +kernel) (zw_T zwd_250) (zw_T zwd_787) (zw_T zwd_788) rfl (zw_T zwd_789) ⟨by decide +kernel, by decide +kernel, by decide +kernel⟩ rfl (by decide +kernel : decode (zYf 172).2.1 848 = .ok (.invokevirtual 122, 3)))
theorem zf_zm_172_445 (env : List (Nat × Nat)) : zI9 172 zY_172 zm_172 env (851, 63, 5, 0, 0) 853 := zi_iload (by decide +kernel : decode zY_172.2.1 851 = .ok (.iload 5, 2))
theorem zf_zm_172_446 (env : List (Nat × Nat)) : zI9 172 zY_172 zm_172 env (853, 20, 448, 0, 0) 856 := zi_icmp_eq (off := 5) (t := 858) (by decide +kernel : decode zY_172.2.1 853 = .ok (.if_icmp .eq 5, 3)) (by decide) (by decide +kernel)
theorem zf_zm_172_447 (env : List (Nat × Nat)) : zI9 172 zY_172 zm_172 env (856, 99, 0, 0, 0) 858 := zi_none
theorem zf_zm_172_448 (env : List (Nat × Nat)) : zI9 172 zY_172 zm_172 env (858, 63, 5, 0, 0) 860 := zi_iload (by decide +kernel : decode zY_172.2.1 858 = .ok (.iload 5, 2))
theorem zf_zm_172_449 (env : List (Nat × Nat)) : zI9 172 zY_172 zm_172 env (860, 6, 460, 0, 0) 863 := zi_if_ne (off := 22) (t := 882) (by decide +kernel : decode zY_172.2.1 860 = .ok (.ifCond .ne 22, 3)) (by decide) (by decide +kernel)
theorem zf_zm_172_450 (env : List (Nat × Nat)) : zI9 172 zY_172 zm_172 env (863, 0, 3, 0, 0) 864 := zi_aload_n (by decide +kernel : decode zY_172.2.1 863 = .ok (.aload_n 3, 1)) rfl
theorem zf_zm_172_451 (env : List (Nat × Nat)) : zI9 172 zY_172 zm_172 env (864, 2, 0, 0, 0) 865 := zi_iconst (by decide +kernel : decode zY_172.2.1 864 = .ok (.iconst 0, 1)) (by decide +kernel)
theorem zf_zm_172_452 (env : List (Nat × Nat)) : zI9 172 zY_172 zm_172 env (865, 26, 0, 0, 0) 866 := zi_lald (by decide +kernel : decode zY_172.2.1 865 = .ok (.laload, 1))
theorem zf_zm_172_453 (env : List (Nat × Nat)) : zI9 172 zY_172 zm_172 env (866, 63, 6, 0, 0) 868 := zi_iload (by decide +kernel : decode zY_172.2.1 866 = .ok (.iload 6, 2))
theorem zf_zm_172_454 (env : List (Nat × Nat)) : zI9 172 zY_172 zm_172 env (868, 5, 456, 0, 0) 871 := zi_if_eq (off := 7) (t := 875) (by decide +kernel : decode zY_172.2.1 868 = .ok (.ifCond .eq 7, 3)) (by decide) (by decide +kernel)
theorem zf_zm_172_455 (env : List (Nat × Nat)) : zI9 172 zY_172 zm_172 env (871, 99, 0, 0, 0) 875 := zi_none
theorem zf_zm_172_456 (env : List (Nat × Nat)) : zI9 172 zY_172 zm_172 env (875, 15, 0, 0, 0) 876 := zi_lconst (by decide +kernel : decode zY_172.2.1 875 = .ok (.lconst 0, 1)) (by decide +kernel)
theorem zf_zm_172_457 (env : List (Nat × Nat)) : zI9 172 zY_172 zm_172 env (876, 34, 0, 0, 0) 877 := zi_lcmp (by decide +kernel : decode zY_172.2.1 876 = .ok (.lcmp, 1))
theorem zf_zm_172_458 (env : List (Nat × Nat)) : zI9 172 zY_172 zm_172 env (877, 5, 460, 0, 0) 880 := zi_if_eq (off := 5) (t := 882) (by decide +kernel : decode zY_172.2.1 877 = .ok (.ifCond .eq 5, 3)) (by decide) (by decide +kernel)
theorem zf_zm_172_459 (env : List (Nat × Nat)) : zI9 172 zY_172 zm_172 env (880, 99, 0, 0, 0) 882 := zi_none
theorem zf_zm_172_460 (env : List (Nat × Nat)) : zI9 172 zY_172 zm_172 env (882, 7, 1145, 0, 0) 885 := zi_goto (off := 1146) (t := 2028) (by decide +kernel : decode zY_172.2.1 882 = .ok (.goto 1146, 3)) (by decide) (by decide +kernel)
theorem zf_zm_172_461 (env : List (Nat × Nat)) : zI9 172 zY_172 zm_172 env (885, 0, 1, 0, 0) 886 := zi_aload_n (by decide +kernel : decode zY_172.2.1 885 = .ok (.aload_n 1, 1)) rfl
theorem zf_zm_172_462 (env : List (Nat × Nat)) : zI9 172 zY_172 zm_172 env (886, 0, 0, 0, 0) 887 := zi_aload_n (by decide +kernel : decode zY_172.2.1 886 = .ok (.aload_n 0, 1)) rfl
theorem zf_zm_172_463 (env : List (Nat × Nat)) : zI9 172 zY_172 zm_172 env (887, 63, 4, 0, 0) 889 := zi_iload (by decide +kernel : decode zY_172.2.1 887 = .ok (.iload 4, 2))
theorem zf_zm_172_464 (env : List (Nat × Nat)) : zI9 172 zY_172 zm_172 env (889, 2, 1, 0, 0) 890 := zi_iconst (by decide +kernel : decode zY_172.2.1 889 = .ok (.iconst 1, 1)) (by decide +kernel)
theorem zf_zm_172_465 (env : List (Nat × Nat)) : zI9 172 zY_172 zm_172 env (890, 9, 0, 0, 0) 891 := zi_iadd (by decide +kernel : decode zY_172.2.1 890 = .ok (.iadd, 1))
theorem zf_zm_172_466 (env : List (Nat × Nat)) : zI9 172 zY_172 zm_172 env (891, 8, 0, 0, 0) 892 := zi_iald (zscr_ok (by decide +kernel : decode zY_172.2.1 891 = .ok (.iaload, 1))) (by decide +kernel : decode zY_172.2.1 891 = .ok (.iaload, 1))
theorem zf_zm_172_467 (env : List (Nat × Nat)) : zI9 172 zY_172 zm_172 env (892, 0, 0, 0, 0) 893 := zi_aload_n (by decide +kernel : decode zY_172.2.1 892 = .ok (.aload_n 0, 1)) rfl
theorem zf_zm_172_468 (env : List (Nat × Nat)) : zI9 172 zY_172 zm_172 env (893, 63, 4, 0, 0) 895 := zi_iload (by decide +kernel : decode zY_172.2.1 893 = .ok (.iload 4, 2))
theorem zf_zm_172_469 (env : List (Nat × Nat)) : zI9 172 zY_172 zm_172 env (895, 2, 2, 0, 0) 896 := zi_iconst (by decide +kernel : decode zY_172.2.1 895 = .ok (.iconst 2, 1)) (by decide +kernel)
theorem zf_zm_172_470 (env : List (Nat × Nat)) : zI9 172 zY_172 zm_172 env (896, 9, 0, 0, 0) 897 := zi_iadd (by decide +kernel : decode zY_172.2.1 896 = .ok (.iadd, 1))
theorem zf_zm_172_471 (env : List (Nat × Nat)) : zI9 172 zY_172 zm_172 env (897, 8, 0, 0, 0) 898 := zi_iald (zscr_ok (by decide +kernel : decode zY_172.2.1 897 = .ok (.iaload, 1))) (by decide +kernel : decode zY_172.2.1 897 = .ok (.iaload, 1))
theorem zf_zm_172_472 (env : List (Nat × Nat)) : zI9 172 zY_172 zm_172 env (898, 0, 0, 0, 0) 899 := zi_aload_n (by decide +kernel : decode zY_172.2.1 898 = .ok (.aload_n 0, 1)) rfl
theorem zf_zm_172_473 (env : List (Nat × Nat)) : zI9 172 zY_172 zm_172 env (899, 63, 4, 0, 0) 901 := zi_iload (by decide +kernel : decode zY_172.2.1 899 = .ok (.iload 4, 2))
theorem zf_zm_172_474 (env : List (Nat × Nat)) : zI9 172 zY_172 zm_172 env (901, 2, 3, 0, 0) 902 := zi_iconst (by decide +kernel : decode zY_172.2.1 901 = .ok (.iconst 3, 1)) (by decide +kernel)
theorem zf_zm_172_475 (env : List (Nat × Nat)) : zI9 172 zY_172 zm_172 env (902, 9, 0, 0, 0) 903 := zi_iadd (by decide +kernel : decode zY_172.2.1 902 = .ok (.iadd, 1))
theorem zf_zm_172_476 (env : List (Nat × Nat)) : zI9 172 zY_172 zm_172 env (903, 8, 0, 0, 0) 904 := zi_iald (zscr_ok (by decide +kernel : decode zY_172.2.1 903 = .ok (.iaload, 1))) (by decide +kernel : decode zY_172.2.1 903 = .ok (.iaload, 1))
theorem zf_zm_172_477 (env : List (Nat × Nat)) : zI9 172 zY_172 zm_172 env (904, 0, 3, 0, 0) 905 := zi_aload_n (by decide +kernel : decode zY_172.2.1 904 = .ok (.aload_n 3, 1)) rfl
theorem zf_zm_172_478 (env : List (Nat × Nat)) : zC9 172 zm_172 env (905, 66, 153, 326, 0) := zi_call (by decide +kernel) (zr_SW (i := 163) zX_ok rfl (zgood_153) (by decide +kernel) (zw_T zwd_781) (zw_T zwd_840) (zw_T zwd_841) ⟨by decide +kernel, by decide +kernel, by decide +kernel⟩ (by decide +kernel : decode (zYf 172).2.1 905 = .ok (.invokestatic 163, 3)))
theorem zf_zm_172_479 (env : List (Nat × Nat)) : zI9 172 zY_172 zm_172 env (908, 10, 5, 0, 0) 910 := zi_istore (by decide +kernel : decode zY_172.2.1 908 = .ok (.istore 5, 2)) (by decide)
theorem zf_zm_172_480 (env : List (Nat × Nat)) : zI9 172 zY_172 zm_172 env (910, 0, 2, 0, 0) 911 := zi_aload_n (by decide +kernel : decode zY_172.2.1 910 = .ok (.aload_n 2, 1)) rfl
theorem zf_zm_172_481 (env : List (Nat × Nat)) : zI9 172 zY_172 zm_172 env (911, 0, 0, 0, 0) 912 := zi_aload_n (by decide +kernel : decode zY_172.2.1 911 = .ok (.aload_n 0, 1)) rfl
theorem zf_zm_172_482 (env : List (Nat × Nat)) : zI9 172 zY_172 zm_172 env (912, 63, 4, 0, 0) 914 := zi_iload (by decide +kernel : decode zY_172.2.1 912 = .ok (.iload 4, 2))
theorem zf_zm_172_483 (env : List (Nat × Nat)) : zI9 172 zY_172 zm_172 env (914, 2, 1, 0, 0) 915 := zi_iconst (by decide +kernel : decode zY_172.2.1 914 = .ok (.iconst 1, 1)) (by decide +kernel)
theorem zf_zm_172_484 (env : List (Nat × Nat)) : zI9 172 zY_172 zm_172 env (915, 9, 0, 0, 0) 916 := zi_iadd (by decide +kernel : decode zY_172.2.1 915 = .ok (.iadd, 1))
theorem zf_zm_172_485 (env : List (Nat × Nat)) : zI9 172 zY_172 zm_172 env (916, 8, 0, 0, 0) 917 := zi_iald (zscr_ok (by decide +kernel : decode zY_172.2.1 916 = .ok (.iaload, 1))) (by decide +kernel : decode zY_172.2.1 916 = .ok (.iaload, 1))
theorem zf_zm_172_486 (env : List (Nat × Nat)) : zI9 172 zY_172 zm_172 env (917, 0, 0, 0, 0) 918 := zi_aload_n (by decide +kernel : decode zY_172.2.1 917 = .ok (.aload_n 0, 1)) rfl
theorem zf_zm_172_487 (env : List (Nat × Nat)) : zI9 172 zY_172 zm_172 env (918, 63, 4, 0, 0) 920 := zi_iload (by decide +kernel : decode zY_172.2.1 918 = .ok (.iload 4, 2))
theorem zf_zm_172_488 (env : List (Nat × Nat)) : zI9 172 zY_172 zm_172 env (920, 2, 2, 0, 0) 921 := zi_iconst (by decide +kernel : decode zY_172.2.1 920 = .ok (.iconst 2, 1)) (by decide +kernel)
theorem zf_zm_172_489 (env : List (Nat × Nat)) : zI9 172 zY_172 zm_172 env (921, 9, 0, 0, 0) 922 := zi_iadd (by decide +kernel : decode zY_172.2.1 921 = .ok (.iadd, 1))
theorem zf_zm_172_490 (env : List (Nat × Nat)) : zI9 172 zY_172 zm_172 env (922, 8, 0, 0, 0) 923 := zi_iald (zscr_ok (by decide +kernel : decode zY_172.2.1 922 = .ok (.iaload, 1))) (by decide +kernel : decode zY_172.2.1 922 = .ok (.iaload, 1))
theorem zf_zm_172_491 (env : List (Nat × Nat)) : zI9 172 zY_172 zm_172 env (923, 0, 0, 0, 0) 924 := zi_aload_n (by decide +kernel : decode zY_172.2.1 923 = .ok (.aload_n 0, 1)) rfl
theorem zf_zm_172_492 (env : List (Nat × Nat)) : zI9 172 zY_172 zm_172 env (924, 63, 4, 0, 0) 926 := zi_iload (by decide +kernel : decode zY_172.2.1 924 = .ok (.iload 4, 2))
theorem zf_zm_172_493 (env : List (Nat × Nat)) : zI9 172 zY_172 zm_172 env (926, 2, 3, 0, 0) 927 := zi_iconst (by decide +kernel : decode zY_172.2.1 926 = .ok (.iconst 3, 1)) (by decide +kernel)
theorem zf_zm_172_494 (env : List (Nat × Nat)) : zI9 172 zY_172 zm_172 env (927, 9, 0, 0, 0) 928 := zi_iadd (by decide +kernel : decode zY_172.2.1 927 = .ok (.iadd, 1))
theorem zf_zm_172_495 (env : List (Nat × Nat)) : zI9 172 zY_172 zm_172 env (928, 8, 0, 0, 0) 929 := zi_iald (zscr_ok (by decide +kernel : decode zY_172.2.1 928 = .ok (.iaload, 1))) (by decide +kernel : decode zY_172.2.1 928 = .ok (.iaload, 1))
theorem zf_zm_172_496 (env : List (Nat × Nat)) : zC9 172 zm_172 env (929, 66, 57, 261, 3) := zi_call (by decide +kernel) (zr_V (i := 165) (n := 3) (q := ("TransportPairModel", zF_1, 23)) zX_ok rfl (zgood_57) (by decide +kernel) (zw_T zwd_250) (zw_T zwd_842) (zw_T zwd_843) rfl (zw_T zwd_844) ⟨by decide +kernel, by decide +kernel, by decide +kernel⟩ rfl (by decide +kernel : decode (zYf 172).2.1 929 = .ok (.invokevirtual 165, 3)))
theorem zf_zm_172_497 (env : List (Nat × Nat)) : zI9 172 zY_172 zm_172 env (932, 10, 6, 0, 0) 934 := zi_istore (by decide +kernel : decode zY_172.2.1 932 = .ok (.istore 6, 2)) (by decide)
theorem zf_zm_172_498 (env : List (Nat × Nat)) : zI9 172 zY_172 zm_172 env (934, 0, 2, 0, 0) 935 := zi_aload_n (by decide +kernel : decode zY_172.2.1 934 = .ok (.aload_n 2, 1)) rfl
theorem zf_zm_172_499 (env : List (Nat × Nat)) : zC9 172 zm_172 env (935, 66, 43, 65, 3) := zi_call (by decide +kernel) (zr_V (i := 122) (n := 0) (q := ("TransportPairModel", zF_1, 23)) zX_ok rfl (zgood_43) (by decide +kernel) (zw_T zwd_250) (zw_T zwd_787) (zw_T zwd_788) rfl (zw_T zwd_789) ⟨by decide +kernel, by decide +kernel, by decide +kernel⟩ rfl (by decide +kernel : decode (zYf 172).2.1 935 = .ok (.invokevirtual 122, 3)))
theorem zf_zm_172_500 (env : List (Nat × Nat)) : zI9 172 zY_172 zm_172 env (938, 63, 5, 0, 0) 940 := zi_iload (by decide +kernel : decode zY_172.2.1 938 = .ok (.iload 5, 2))
theorem zf_zm_172_501 (env : List (Nat × Nat)) : zI9 172 zY_172 zm_172 env (940, 20, 503, 0, 0) 943 := zi_icmp_eq (off := 5) (t := 945) (by decide +kernel : decode zY_172.2.1 940 = .ok (.if_icmp .eq 5, 3)) (by decide) (by decide +kernel)
theorem zf_zm_172_502 (env : List (Nat × Nat)) : zI9 172 zY_172 zm_172 env (943, 99, 0, 0, 0) 945 := zi_none
theorem zf_zm_172_503 (env : List (Nat × Nat)) : zI9 172 zY_172 zm_172 env (945, 63, 5, 0, 0) 947 := zi_iload (by decide +kernel : decode zY_172.2.1 945 = .ok (.iload 5, 2))
theorem zf_zm_172_504 (env : List (Nat × Nat)) : zI9 172 zY_172 zm_172 env (947, 6, 513, 0, 0) 950 := zi_if_ne (off := 15) (t := 962) (by decide +kernel : decode zY_172.2.1 947 = .ok (.ifCond .ne 15, 3)) (by decide) (by decide +kernel)
theorem zf_zm_172_505 (env : List (Nat × Nat)) : zI9 172 zY_172 zm_172 env (950, 0, 3, 0, 0) 951 := zi_aload_n (by decide +kernel : decode zY_172.2.1 950 = .ok (.aload_n 3, 1)) rfl
theorem zf_zm_172_506 (env : List (Nat × Nat)) : zI9 172 zY_172 zm_172 env (951, 2, 0, 0, 0) 952 := zi_iconst (by decide +kernel : decode zY_172.2.1 951 = .ok (.iconst 0, 1)) (by decide +kernel)
theorem zf_zm_172_507 (env : List (Nat × Nat)) : zI9 172 zY_172 zm_172 env (952, 26, 0, 0, 0) 953 := zi_lald (by decide +kernel : decode zY_172.2.1 952 = .ok (.laload, 1))
theorem zf_zm_172_508 (env : List (Nat × Nat)) : zI9 172 zY_172 zm_172 env (953, 63, 6, 0, 0) 955 := zi_iload (by decide +kernel : decode zY_172.2.1 953 = .ok (.iload 6, 2))
theorem zf_zm_172_509 (env : List (Nat × Nat)) : zI9 172 zY_172 zm_172 env (955, 16, 0, 0, 0) 956 := zi_i2l (by decide +kernel : decode zY_172.2.1 955 = .ok (.i2l, 1))
theorem zf_zm_172_510 (env : List (Nat × Nat)) : zI9 172 zY_172 zm_172 env (956, 34, 0, 0, 0) 957 := zi_lcmp (by decide +kernel : decode zY_172.2.1 956 = .ok (.lcmp, 1))
theorem zf_zm_172_511 (env : List (Nat × Nat)) : zI9 172 zY_172 zm_172 env (957, 5, 513, 0, 0) 960 := zi_if_eq (off := 5) (t := 962) (by decide +kernel : decode zY_172.2.1 957 = .ok (.ifCond .eq 5, 3)) (by decide) (by decide +kernel)
theorem zf_zm_172_512 (env : List (Nat × Nat)) : zI9 172 zY_172 zm_172 env (960, 99, 0, 0, 0) 962 := zi_none
theorem zf_zm_172_513 (env : List (Nat × Nat)) : zI9 172 zY_172 zm_172 env (962, 7, 1145, 0, 0) 965 := zi_goto (off := 1066) (t := 2028) (by decide +kernel : decode zY_172.2.1 962 = .ok (.goto 1066, 3)) (by decide) (by decide +kernel)
theorem zf_zm_172_514 (env : List (Nat × Nat)) : zI9 172 zY_172 zm_172 env (965, 0, 1, 0, 0) 966 := zi_aload_n (by decide +kernel : decode zY_172.2.1 965 = .ok (.aload_n 1, 1)) rfl
theorem zf_zm_172_515 (env : List (Nat × Nat)) : zI9 172 zY_172 zm_172 env (966, 0, 0, 0, 0) 967 := zi_aload_n (by decide +kernel : decode zY_172.2.1 966 = .ok (.aload_n 0, 1)) rfl
theorem zf_zm_172_516 (env : List (Nat × Nat)) : zI9 172 zY_172 zm_172 env (967, 63, 4, 0, 0) 969 := zi_iload (by decide +kernel : decode zY_172.2.1 967 = .ok (.iload 4, 2))
theorem zf_zm_172_517 (env : List (Nat × Nat)) : zI9 172 zY_172 zm_172 env (969, 2, 1, 0, 0) 970 := zi_iconst (by decide +kernel : decode zY_172.2.1 969 = .ok (.iconst 1, 1)) (by decide +kernel)
theorem zf_zm_172_518 (env : List (Nat × Nat)) : zI9 172 zY_172 zm_172 env (970, 9, 0, 0, 0) 971 := zi_iadd (by decide +kernel : decode zY_172.2.1 970 = .ok (.iadd, 1))
theorem zf_zm_172_519 (env : List (Nat × Nat)) : zI9 172 zY_172 zm_172 env (971, 8, 0, 0, 0) 972 := zi_iald (zscr_ok (by decide +kernel : decode zY_172.2.1 971 = .ok (.iaload, 1))) (by decide +kernel : decode zY_172.2.1 971 = .ok (.iaload, 1))
theorem zf_zm_172_520 (env : List (Nat × Nat)) : zI9 172 zY_172 zm_172 env (972, 0, 3, 0, 0) 973 := zi_aload_n (by decide +kernel : decode zY_172.2.1 972 = .ok (.aload_n 3, 1)) rfl
theorem zf_zm_172_521 (env : List (Nat × Nat)) : zC9 172 zm_172 env (973, 66, 154, 196, 0) := zi_call (by decide +kernel) (zr_SW (i := 166) zX_ok rfl (zgood_154) (by decide +kernel) (zw_T zwd_781) (zw_T zwd_845) (zw_T zwd_846) ⟨by decide +kernel, by decide +kernel, by decide +kernel⟩ (by decide +kernel : decode (zYf 172).2.1 973 = .ok (.invokestatic 166, 3)))
theorem zf_zm_172_522 (env : List (Nat × Nat)) : zI9 172 zY_172 zm_172 env (976, 10, 5, 0, 0) 978 := zi_istore (by decide +kernel : decode zY_172.2.1 976 = .ok (.istore 5, 2)) (by decide)
theorem zf_zm_172_523 (env : List (Nat × Nat)) : zI9 172 zY_172 zm_172 env (978, 0, 2, 0, 0) 979 := zi_aload_n (by decide +kernel : decode zY_172.2.1 978 = .ok (.aload_n 2, 1)) rfl
theorem zf_zm_172_524 (env : List (Nat × Nat)) : zI9 172 zY_172 zm_172 env (979, 0, 0, 0, 0) 980 := zi_aload_n (by decide +kernel : decode zY_172.2.1 979 = .ok (.aload_n 0, 1)) rfl
theorem zf_zm_172_525 (env : List (Nat × Nat)) : zI9 172 zY_172 zm_172 env (980, 63, 4, 0, 0) 982 := zi_iload (by decide +kernel : decode zY_172.2.1 980 = .ok (.iload 4, 2))
theorem zf_zm_172_526 (env : List (Nat × Nat)) : zI9 172 zY_172 zm_172 env (982, 2, 1, 0, 0) 983 := zi_iconst (by decide +kernel : decode zY_172.2.1 982 = .ok (.iconst 1, 1)) (by decide +kernel)
theorem zf_zm_172_527 (env : List (Nat × Nat)) : zI9 172 zY_172 zm_172 env (983, 9, 0, 0, 0) 984 := zi_iadd (by decide +kernel : decode zY_172.2.1 983 = .ok (.iadd, 1))
theorem zf_zm_172_528 (env : List (Nat × Nat)) : zI9 172 zY_172 zm_172 env (984, 8, 0, 0, 0) 985 := zi_iald (zscr_ok (by decide +kernel : decode zY_172.2.1 984 = .ok (.iaload, 1))) (by decide +kernel : decode zY_172.2.1 984 = .ok (.iaload, 1))
theorem zf_zm_172_529 (env : List (Nat × Nat)) : zC9 172 zm_172 env (985, 66, 58, 133, 3) := zi_call (by decide +kernel) (zr_V (i := 168) (n := 1) (q := ("TransportPairModel", zF_1, 23)) zX_ok rfl (zgood_58) (by decide +kernel) (zw_T zwd_250) (zw_T zwd_847) (zw_T zwd_848) rfl (zw_T zwd_849) ⟨by decide +kernel, by decide +kernel, by decide +kernel⟩ rfl (by decide +kernel : decode (zYf 172).2.1 985 = .ok (.invokevirtual 168, 3)))
theorem zf_zm_172_530 (env : List (Nat × Nat)) : zI9 172 zY_172 zm_172 env (988, 41, 6, 0, 0) 990 := zi_lstore (by decide +kernel : decode zY_172.2.1 988 = .ok (.lstore 6, 2)) (by decide)
theorem zf_zm_172_531 (env : List (Nat × Nat)) : zI9 172 zY_172 zm_172 env (990, 0, 2, 0, 0) 991 := zi_aload_n (by decide +kernel : decode zY_172.2.1 990 = .ok (.aload_n 2, 1)) rfl
theorem zf_zm_172_532 (env : List (Nat × Nat)) : zC9 172 zm_172 env (991, 66, 43, 65, 3) := zi_call (by decide +kernel) (zr_V (i := 122) (n := 0) (q := ("TransportPairModel", zF_1, 23)) zX_ok rfl (zgood_43) (by decide +kernel) (zw_T zwd_250) (zw_T zwd_787) (zw_T zwd_788) rfl (zw_T zwd_789) ⟨by decide +kernel, by decide +kernel, by decide +kernel⟩ rfl (by decide +kernel : decode (zYf 172).2.1 991 = .ok (.invokevirtual 122, 3)))
theorem zf_zm_172_533 (env : List (Nat × Nat)) : zI9 172 zY_172 zm_172 env (994, 63, 5, 0, 0) 996 := zi_iload (by decide +kernel : decode zY_172.2.1 994 = .ok (.iload 5, 2))
theorem zf_zm_172_534 (env : List (Nat × Nat)) : zI9 172 zY_172 zm_172 env (996, 20, 536, 0, 0) 999 := zi_icmp_eq (off := 5) (t := 1001) (by decide +kernel : decode zY_172.2.1 996 = .ok (.if_icmp .eq 5, 3)) (by decide) (by decide +kernel)
theorem zf_zm_172_535 (env : List (Nat × Nat)) : zI9 172 zY_172 zm_172 env (999, 99, 0, 0, 0) 1001 := zi_none
theorem zf_zm_172_536 (env : List (Nat × Nat)) : zI9 172 zY_172 zm_172 env (1001, 63, 5, 0, 0) 1003 := zi_iload (by decide +kernel : decode zY_172.2.1 1001 = .ok (.iload 5, 2))
theorem zf_zm_172_537 (env : List (Nat × Nat)) : zI9 172 zY_172 zm_172 env (1003, 6, 539, 0, 0) 1006 := zi_if_ne (off := 14) (t := 1017) (by decide +kernel : decode zY_172.2.1 1003 = .ok (.ifCond .ne 14, 3)) (by decide) (by decide +kernel)
theorem zf_zm_172_538 (env : List (Nat × Nat)) : zI9 172 zY_172 zm_172 env (1006, 99, 0, 0, 0) 1017 := zi_none
theorem zf_zm_172_539 (env : List (Nat × Nat)) : zI9 172 zY_172 zm_172 env (1017, 7, 1145, 0, 0) 1020 := zi_goto (off := 1011) (t := 2028) (by decide +kernel : decode zY_172.2.1 1017 = .ok (.goto 1011, 3)) (by decide) (by decide +kernel)
theorem zf_zm_172_540 (env : List (Nat × Nat)) : zI9 172 zY_172 zm_172 env (1020, 0, 1, 0, 0) 1021 := zi_aload_n (by decide +kernel : decode zY_172.2.1 1020 = .ok (.aload_n 1, 1)) rfl
theorem zf_zm_172_541 (env : List (Nat × Nat)) : zI9 172 zY_172 zm_172 env (1021, 0, 0, 0, 0) 1022 := zi_aload_n (by decide +kernel : decode zY_172.2.1 1021 = .ok (.aload_n 0, 1)) rfl
theorem zf_zm_172_542 (env : List (Nat × Nat)) : zI9 172 zY_172 zm_172 env (1022, 63, 4, 0, 0) 1024 := zi_iload (by decide +kernel : decode zY_172.2.1 1022 = .ok (.iload 4, 2))
theorem zf_zm_172_543 (env : List (Nat × Nat)) : zI9 172 zY_172 zm_172 env (1024, 2, 1, 0, 0) 1025 := zi_iconst (by decide +kernel : decode zY_172.2.1 1024 = .ok (.iconst 1, 1)) (by decide +kernel)
theorem zf_zm_172_544 (env : List (Nat × Nat)) : zI9 172 zY_172 zm_172 env (1025, 9, 0, 0, 0) 1026 := zi_iadd (by decide +kernel : decode zY_172.2.1 1025 = .ok (.iadd, 1))
theorem zf_zm_172_545 (env : List (Nat × Nat)) : zI9 172 zY_172 zm_172 env (1026, 8, 0, 0, 0) 1027 := zi_iald (zscr_ok (by decide +kernel : decode zY_172.2.1 1026 = .ok (.iaload, 1))) (by decide +kernel : decode zY_172.2.1 1026 = .ok (.iaload, 1))
theorem zf_zm_172_546 (env : List (Nat × Nat)) : zI9 172 zY_172 zm_172 env (1027, 0, 0, 0, 0) 1028 := zi_aload_n (by decide +kernel : decode zY_172.2.1 1027 = .ok (.aload_n 0, 1)) rfl
theorem zf_zm_172_547 (env : List (Nat × Nat)) : zI9 172 zY_172 zm_172 env (1028, 63, 4, 0, 0) 1030 := zi_iload (by decide +kernel : decode zY_172.2.1 1028 = .ok (.iload 4, 2))
theorem zf_zm_172_548 (env : List (Nat × Nat)) : zI9 172 zY_172 zm_172 env (1030, 2, 2, 0, 0) 1031 := zi_iconst (by decide +kernel : decode zY_172.2.1 1030 = .ok (.iconst 2, 1)) (by decide +kernel)
theorem zf_zm_172_549 (env : List (Nat × Nat)) : zI9 172 zY_172 zm_172 env (1031, 9, 0, 0, 0) 1032 := zi_iadd (by decide +kernel : decode zY_172.2.1 1031 = .ok (.iadd, 1))
theorem zf_zm_172_550 (env : List (Nat × Nat)) : zI9 172 zY_172 zm_172 env (1032, 8, 0, 0, 0) 1033 := zi_iald (zscr_ok (by decide +kernel : decode zY_172.2.1 1032 = .ok (.iaload, 1))) (by decide +kernel : decode zY_172.2.1 1032 = .ok (.iaload, 1))
theorem zf_zm_172_551 (env : List (Nat × Nat)) : zI9 172 zY_172 zm_172 env (1033, 0, 3, 0, 0) 1034 := zi_aload_n (by decide +kernel : decode zY_172.2.1 1033 = .ok (.aload_n 3, 1)) rfl
theorem zf_zm_172_552 (env : List (Nat × Nat)) : zC9 172 zm_172 env (1034, 66, 155, 261, 0) := zi_call (by decide +kernel) (zr_SW (i := 169) zX_ok rfl (zgood_155) (by decide +kernel) (zw_T zwd_781) (zw_T zwd_850) (zw_T zwd_851) ⟨by decide +kernel, by decide +kernel, by decide +kernel⟩ (by decide +kernel : decode (zYf 172).2.1 1034 = .ok (.invokestatic 169, 3)))
theorem zf_zm_172_553 (env : List (Nat × Nat)) : zI9 172 zY_172 zm_172 env (1037, 10, 5, 0, 0) 1039 := zi_istore (by decide +kernel : decode zY_172.2.1 1037 = .ok (.istore 5, 2)) (by decide)
theorem zf_zm_172_554 (env : List (Nat × Nat)) : zI9 172 zY_172 zm_172 env (1039, 0, 2, 0, 0) 1040 := zi_aload_n (by decide +kernel : decode zY_172.2.1 1039 = .ok (.aload_n 2, 1)) rfl
theorem zf_zm_172_555 (env : List (Nat × Nat)) : zI9 172 zY_172 zm_172 env (1040, 0, 0, 0, 0) 1041 := zi_aload_n (by decide +kernel : decode zY_172.2.1 1040 = .ok (.aload_n 0, 1)) rfl
theorem zf_zm_172_556 (env : List (Nat × Nat)) : zI9 172 zY_172 zm_172 env (1041, 63, 4, 0, 0) 1043 := zi_iload (by decide +kernel : decode zY_172.2.1 1041 = .ok (.iload 4, 2))
theorem zf_zm_172_557 (env : List (Nat × Nat)) : zI9 172 zY_172 zm_172 env (1043, 2, 1, 0, 0) 1044 := zi_iconst (by decide +kernel : decode zY_172.2.1 1043 = .ok (.iconst 1, 1)) (by decide +kernel)
theorem zf_zm_172_558 (env : List (Nat × Nat)) : zI9 172 zY_172 zm_172 env (1044, 9, 0, 0, 0) 1045 := zi_iadd (by decide +kernel : decode zY_172.2.1 1044 = .ok (.iadd, 1))
theorem zf_zm_172_559 (env : List (Nat × Nat)) : zI9 172 zY_172 zm_172 env (1045, 8, 0, 0, 0) 1046 := zi_iald (zscr_ok (by decide +kernel : decode zY_172.2.1 1045 = .ok (.iaload, 1))) (by decide +kernel : decode zY_172.2.1 1045 = .ok (.iaload, 1))
theorem zf_zm_172_560 (env : List (Nat × Nat)) : zI9 172 zY_172 zm_172 env (1046, 0, 0, 0, 0) 1047 := zi_aload_n (by decide +kernel : decode zY_172.2.1 1046 = .ok (.aload_n 0, 1)) rfl
theorem zf_zm_172_561 (env : List (Nat × Nat)) : zI9 172 zY_172 zm_172 env (1047, 63, 4, 0, 0) 1049 := zi_iload (by decide +kernel : decode zY_172.2.1 1047 = .ok (.iload 4, 2))
theorem zf_zm_172_562 (env : List (Nat × Nat)) : zI9 172 zY_172 zm_172 env (1049, 2, 2, 0, 0) 1050 := zi_iconst (by decide +kernel : decode zY_172.2.1 1049 = .ok (.iconst 2, 1)) (by decide +kernel)
theorem zf_zm_172_563 (env : List (Nat × Nat)) : zI9 172 zY_172 zm_172 env (1050, 9, 0, 0, 0) 1051 := zi_iadd (by decide +kernel : decode zY_172.2.1 1050 = .ok (.iadd, 1))
theorem zf_zm_172_564 (env : List (Nat × Nat)) : zI9 172 zY_172 zm_172 env (1051, 8, 0, 0, 0) 1052 := zi_iald (zscr_ok (by decide +kernel : decode zY_172.2.1 1051 = .ok (.iaload, 1))) (by decide +kernel : decode zY_172.2.1 1051 = .ok (.iaload, 1))
theorem zf_zm_172_565 (env : List (Nat × Nat)) : zC9 172 zm_172 env (1052, 66, 59, 195, 3) := zi_call (by decide +kernel) (zr_V (i := 171) (n := 2) (q := ("TransportPairModel", zF_1, 23)) zX_ok rfl (zgood_59) (by decide +kernel) (zw_T zwd_250) (zw_T zwd_852) (zw_T zwd_853) rfl (zw_T zwd_854) ⟨by decide +kernel, by decide +kernel, by decide +kernel⟩ rfl (by decide +kernel : decode (zYf 172).2.1 1052 = .ok (.invokevirtual 171, 3)))
theorem zf_zm_172_566 (env : List (Nat × Nat)) : zI9 172 zY_172 zm_172 env (1055, 10, 6, 0, 0) 1057 := zi_istore (by decide +kernel : decode zY_172.2.1 1055 = .ok (.istore 6, 2)) (by decide)
theorem zf_zm_172_567 (env : List (Nat × Nat)) : zI9 172 zY_172 zm_172 env (1057, 0, 2, 0, 0) 1058 := zi_aload_n (by decide +kernel : decode zY_172.2.1 1057 = .ok (.aload_n 2, 1)) rfl
theorem zf_zm_172_568 (env : List (Nat × Nat)) : zC9 172 zm_172 env (1058, 66, 43, 65, 3) := zi_call (by decide +kernel) (zr_V (i := 122) (n := 0) (q := ("TransportPairModel", zF_1, 23)) zX_ok rfl (zgood_43) (by decide +kernel) (zw_T zwd_250) (zw_T zwd_787) (zw_T zwd_788) rfl (zw_T zwd_789) ⟨by decide +kernel, by decide +kernel, by decide +kernel⟩ rfl (by decide +kernel : decode (zYf 172).2.1 1058 = .ok (.invokevirtual 122, 3)))
theorem zf_zm_172_569 (env : List (Nat × Nat)) : zI9 172 zY_172 zm_172 env (1061, 63, 5, 0, 0) 1063 := zi_iload (by decide +kernel : decode zY_172.2.1 1061 = .ok (.iload 5, 2))
theorem zf_zm_172_570 (env : List (Nat × Nat)) : zI9 172 zY_172 zm_172 env (1063, 20, 572, 0, 0) 1066 := zi_icmp_eq (off := 5) (t := 1068) (by decide +kernel : decode zY_172.2.1 1063 = .ok (.if_icmp .eq 5, 3)) (by decide) (by decide +kernel)
theorem zf_zm_172_571 (env : List (Nat × Nat)) : zI9 172 zY_172 zm_172 env (1066, 99, 0, 0, 0) 1068 := zi_none
theorem zf_zm_172_572 (env : List (Nat × Nat)) : zI9 172 zY_172 zm_172 env (1068, 63, 5, 0, 0) 1070 := zi_iload (by decide +kernel : decode zY_172.2.1 1068 = .ok (.iload 5, 2))
theorem zf_zm_172_573 (env : List (Nat × Nat)) : zI9 172 zY_172 zm_172 env (1070, 6, 584, 0, 0) 1073 := zi_if_ne (off := 22) (t := 1092) (by decide +kernel : decode zY_172.2.1 1070 = .ok (.ifCond .ne 22, 3)) (by decide) (by decide +kernel)
theorem zf_zm_172_574 (env : List (Nat × Nat)) : zI9 172 zY_172 zm_172 env (1073, 0, 3, 0, 0) 1074 := zi_aload_n (by decide +kernel : decode zY_172.2.1 1073 = .ok (.aload_n 3, 1)) rfl
theorem zf_zm_172_575 (env : List (Nat × Nat)) : zI9 172 zY_172 zm_172 env (1074, 2, 0, 0, 0) 1075 := zi_iconst (by decide +kernel : decode zY_172.2.1 1074 = .ok (.iconst 0, 1)) (by decide +kernel)
theorem zf_zm_172_576 (env : List (Nat × Nat)) : zI9 172 zY_172 zm_172 env (1075, 26, 0, 0, 0) 1076 := zi_lald (by decide +kernel : decode zY_172.2.1 1075 = .ok (.laload, 1))
theorem zf_zm_172_577 (env : List (Nat × Nat)) : zI9 172 zY_172 zm_172 env (1076, 63, 6, 0, 0) 1078 := zi_iload (by decide +kernel : decode zY_172.2.1 1076 = .ok (.iload 6, 2))
theorem zf_zm_172_578 (env : List (Nat × Nat)) : zI9 172 zY_172 zm_172 env (1078, 5, 580, 0, 0) 1081 := zi_if_eq (off := 7) (t := 1085) (by decide +kernel : decode zY_172.2.1 1078 = .ok (.ifCond .eq 7, 3)) (by decide) (by decide +kernel)
theorem zf_zm_172_579 (env : List (Nat × Nat)) : zI9 172 zY_172 zm_172 env (1081, 99, 0, 0, 0) 1085 := zi_none
theorem zf_zm_172_580 (env : List (Nat × Nat)) : zI9 172 zY_172 zm_172 env (1085, 15, 0, 0, 0) 1086 := zi_lconst (by decide +kernel : decode zY_172.2.1 1085 = .ok (.lconst 0, 1)) (by decide +kernel)
theorem zf_zm_172_581 (env : List (Nat × Nat)) : zI9 172 zY_172 zm_172 env (1086, 34, 0, 0, 0) 1087 := zi_lcmp (by decide +kernel : decode zY_172.2.1 1086 = .ok (.lcmp, 1))
theorem zf_zm_172_582 (env : List (Nat × Nat)) : zI9 172 zY_172 zm_172 env (1087, 5, 584, 0, 0) 1090 := zi_if_eq (off := 5) (t := 1092) (by decide +kernel : decode zY_172.2.1 1087 = .ok (.ifCond .eq 5, 3)) (by decide) (by decide +kernel)
theorem zf_zm_172_583 (env : List (Nat × Nat)) : zI9 172 zY_172 zm_172 env (1090, 99, 0, 0, 0) 1092 := zi_none
theorem zf_zm_172_584 (env : List (Nat × Nat)) : zI9 172 zY_172 zm_172 env (1092, 7, 1145, 0, 0) 1095 := zi_goto (off := 936) (t := 2028) (by decide +kernel : decode zY_172.2.1 1092 = .ok (.goto 936, 3)) (by decide) (by decide +kernel)
theorem zf_zm_172_585 (env : List (Nat × Nat)) : zI9 172 zY_172 zm_172 env (1095, 0, 1, 0, 0) 1096 := zi_aload_n (by decide +kernel : decode zY_172.2.1 1095 = .ok (.aload_n 1, 1)) rfl
theorem zf_zm_172_586 (env : List (Nat × Nat)) : zI9 172 zY_172 zm_172 env (1096, 0, 0, 0, 0) 1097 := zi_aload_n (by decide +kernel : decode zY_172.2.1 1096 = .ok (.aload_n 0, 1)) rfl
theorem zf_zm_172_587 (env : List (Nat × Nat)) : zI9 172 zY_172 zm_172 env (1097, 63, 4, 0, 0) 1099 := zi_iload (by decide +kernel : decode zY_172.2.1 1097 = .ok (.iload 4, 2))
theorem zf_zm_172_588 (env : List (Nat × Nat)) : zI9 172 zY_172 zm_172 env (1099, 2, 1, 0, 0) 1100 := zi_iconst (by decide +kernel : decode zY_172.2.1 1099 = .ok (.iconst 1, 1)) (by decide +kernel)
theorem zf_zm_172_589 (env : List (Nat × Nat)) : zI9 172 zY_172 zm_172 env (1100, 9, 0, 0, 0) 1101 := zi_iadd (by decide +kernel : decode zY_172.2.1 1100 = .ok (.iadd, 1))
theorem zf_zm_172_590 (env : List (Nat × Nat)) : zI9 172 zY_172 zm_172 env (1101, 8, 0, 0, 0) 1102 := zi_iald (zscr_ok (by decide +kernel : decode zY_172.2.1 1101 = .ok (.iaload, 1))) (by decide +kernel : decode zY_172.2.1 1101 = .ok (.iaload, 1))
theorem zf_zm_172_591 (env : List (Nat × Nat)) : zC9 172 zm_172 env (1102, 66, 156, 131, 0) := zi_call (by decide +kernel) (zr_SW (i := 172) zX_ok rfl (zgood_156) (by decide +kernel) (zw_T zwd_781) (zw_T zwd_855) (zw_T zwd_856) ⟨by decide +kernel, by decide +kernel, by decide +kernel⟩ (by decide +kernel : decode (zYf 172).2.1 1102 = .ok (.invokestatic 172, 3)))
theorem zf_zm_172_592 (env : List (Nat × Nat)) : zI9 172 zY_172 zm_172 env (1105, 10, 5, 0, 0) 1107 := zi_istore (by decide +kernel : decode zY_172.2.1 1105 = .ok (.istore 5, 2)) (by decide)
theorem zf_zm_172_593 (env : List (Nat × Nat)) : zI9 172 zY_172 zm_172 env (1107, 0, 2, 0, 0) 1108 := zi_aload_n (by decide +kernel : decode zY_172.2.1 1107 = .ok (.aload_n 2, 1)) rfl
theorem zf_zm_172_594 (env : List (Nat × Nat)) : zI9 172 zY_172 zm_172 env (1108, 0, 0, 0, 0) 1109 := zi_aload_n (by decide +kernel : decode zY_172.2.1 1108 = .ok (.aload_n 0, 1)) rfl
theorem zf_zm_172_595 (env : List (Nat × Nat)) : zI9 172 zY_172 zm_172 env (1109, 63, 4, 0, 0) 1111 := zi_iload (by decide +kernel : decode zY_172.2.1 1109 = .ok (.iload 4, 2))
theorem zf_zm_172_596 (env : List (Nat × Nat)) : zI9 172 zY_172 zm_172 env (1111, 2, 1, 0, 0) 1112 := zi_iconst (by decide +kernel : decode zY_172.2.1 1111 = .ok (.iconst 1, 1)) (by decide +kernel)
theorem zf_zm_172_597 (env : List (Nat × Nat)) : zI9 172 zY_172 zm_172 env (1112, 9, 0, 0, 0) 1113 := zi_iadd (by decide +kernel : decode zY_172.2.1 1112 = .ok (.iadd, 1))
theorem zf_zm_172_598 (env : List (Nat × Nat)) : zI9 172 zY_172 zm_172 env (1113, 8, 0, 0, 0) 1114 := zi_iald (zscr_ok (by decide +kernel : decode zY_172.2.1 1113 = .ok (.iaload, 1))) (by decide +kernel : decode zY_172.2.1 1113 = .ok (.iaload, 1))
theorem zf_zm_172_599 (env : List (Nat × Nat)) : zC9 172 zm_172 env (1114, 66, 60, 132, 3) := zi_call (by decide +kernel) (zr_V (i := 174) (n := 1) (q := ("TransportPairModel", zF_1, 23)) zX_ok rfl (zgood_60) (by decide +kernel) (zw_T zwd_250) (zw_T zwd_857) (zw_T zwd_858) rfl (zw_T zwd_859) ⟨by decide +kernel, by decide +kernel, by decide +kernel⟩ rfl (by decide +kernel : decode (zYf 172).2.1 1114 = .ok (.invokevirtual 174, 3)))
theorem zf_zm_172_600 (env : List (Nat × Nat)) : zI9 172 zY_172 zm_172 env (1117, 0, 2, 0, 0) 1118 := zi_aload_n (by decide +kernel : decode zY_172.2.1 1117 = .ok (.aload_n 2, 1)) rfl
theorem zf_zm_172_601 (env : List (Nat × Nat)) : zC9 172 zm_172 env (1118, 66, 43, 65, 3) := zi_call (by decide +kernel) (zr_V (i := 122) (n := 0) (q := ("TransportPairModel", zF_1, 23)) zX_ok rfl (zgood_43) (by decide +kernel) (zw_T zwd_250) (zw_T zwd_787) (zw_T zwd_788) rfl (zw_T zwd_789) ⟨by decide +kernel, by decide +kernel, by decide +kernel⟩ rfl (by decide +kernel : decode (zYf 172).2.1 1118 = .ok (.invokevirtual 122, 3)))
theorem zf_zm_172_602 (env : List (Nat × Nat)) : zI9 172 zY_172 zm_172 env (1121, 63, 5, 0, 0) 1123 := zi_iload (by decide +kernel : decode zY_172.2.1 1121 = .ok (.iload 5, 2))
theorem zf_zm_172_603 (env : List (Nat × Nat)) : zI9 172 zY_172 zm_172 env (1123, 20, 605, 0, 0) 1126 := zi_icmp_eq (off := 5) (t := 1128) (by decide +kernel : decode zY_172.2.1 1123 = .ok (.if_icmp .eq 5, 3)) (by decide) (by decide +kernel)
theorem zf_zm_172_604 (env : List (Nat × Nat)) : zI9 172 zY_172 zm_172 env (1126, 99, 0, 0, 0) 1128 := zi_none
theorem zf_zm_172_605 (env : List (Nat × Nat)) : zI9 172 zY_172 zm_172 env (1128, 7, 1145, 0, 0) 1131 := zi_goto (off := 900) (t := 2028) (by decide +kernel : decode zY_172.2.1 1128 = .ok (.goto 900, 3)) (by decide) (by decide +kernel)
theorem zf_zm_172_606 (env : List (Nat × Nat)) : zI9 172 zY_172 zm_172 env (1131, 0, 1, 0, 0) 1132 := zi_aload_n (by decide +kernel : decode zY_172.2.1 1131 = .ok (.aload_n 1, 1)) rfl
theorem zf_zm_172_607 (env : List (Nat × Nat)) : zI9 172 zY_172 zm_172 env (1132, 0, 0, 0, 0) 1133 := zi_aload_n (by decide +kernel : decode zY_172.2.1 1132 = .ok (.aload_n 0, 1)) rfl
theorem zf_zm_172_608 (env : List (Nat × Nat)) : zI9 172 zY_172 zm_172 env (1133, 63, 4, 0, 0) 1135 := zi_iload (by decide +kernel : decode zY_172.2.1 1133 = .ok (.iload 4, 2))
theorem zf_zm_172_609 (env : List (Nat × Nat)) : zI9 172 zY_172 zm_172 env (1135, 2, 1, 0, 0) 1136 := zi_iconst (by decide +kernel : decode zY_172.2.1 1135 = .ok (.iconst 1, 1)) (by decide +kernel)
theorem zf_zm_172_610 (env : List (Nat × Nat)) : zI9 172 zY_172 zm_172 env (1136, 9, 0, 0, 0) 1137 := zi_iadd (by decide +kernel : decode zY_172.2.1 1136 = .ok (.iadd, 1))
theorem zf_zm_172_611 (env : List (Nat × Nat)) : zI9 172 zY_172 zm_172 env (1137, 8, 0, 0, 0) 1138 := zi_iald (zscr_ok (by decide +kernel : decode zY_172.2.1 1137 = .ok (.iaload, 1))) (by decide +kernel : decode zY_172.2.1 1137 = .ok (.iaload, 1))
theorem zf_zm_172_612 (env : List (Nat × Nat)) : zI9 172 zY_172 zm_172 env (1138, 0, 0, 0, 0) 1139 := zi_aload_n (by decide +kernel : decode zY_172.2.1 1138 = .ok (.aload_n 0, 1)) rfl
theorem zf_zm_172_613 (env : List (Nat × Nat)) : zI9 172 zY_172 zm_172 env (1139, 63, 4, 0, 0) 1141 := zi_iload (by decide +kernel : decode zY_172.2.1 1139 = .ok (.iload 4, 2))
theorem zf_zm_172_614 (env : List (Nat × Nat)) : zI9 172 zY_172 zm_172 env (1141, 2, 2, 0, 0) 1142 := zi_iconst (by decide +kernel : decode zY_172.2.1 1141 = .ok (.iconst 2, 1)) (by decide +kernel)
theorem zf_zm_172_615 (env : List (Nat × Nat)) : zI9 172 zY_172 zm_172 env (1142, 9, 0, 0, 0) 1143 := zi_iadd (by decide +kernel : decode zY_172.2.1 1142 = .ok (.iadd, 1))
theorem zf_zm_172_616 (env : List (Nat × Nat)) : zI9 172 zY_172 zm_172 env (1143, 8, 0, 0, 0) 1144 := zi_iald (zscr_ok (by decide +kernel : decode zY_172.2.1 1143 = .ok (.iaload, 1))) (by decide +kernel : decode zY_172.2.1 1143 = .ok (.iaload, 1))
theorem zf_zm_172_617 (env : List (Nat × Nat)) : zI9 172 zY_172 zm_172 env (1144, 0, 3, 0, 0) 1145 := zi_aload_n (by decide +kernel : decode zY_172.2.1 1144 = .ok (.aload_n 3, 1)) rfl
theorem zf_zm_172_618 (env : List (Nat × Nat)) : zC9 172 zm_172 env (1145, 66, 157, 261, 0) := zi_call (by decide +kernel) (zr_SW (i := 175) zX_ok rfl (zgood_157) (by decide +kernel) (zw_T zwd_781) (zw_T zwd_860) (zw_T zwd_861) ⟨by decide +kernel, by decide +kernel, by decide +kernel⟩ (by decide +kernel : decode (zYf 172).2.1 1145 = .ok (.invokestatic 175, 3)))
theorem zf_zm_172_619 (env : List (Nat × Nat)) : zI9 172 zY_172 zm_172 env (1148, 10, 5, 0, 0) 1150 := zi_istore (by decide +kernel : decode zY_172.2.1 1148 = .ok (.istore 5, 2)) (by decide)
theorem zf_zm_172_620 (env : List (Nat × Nat)) : zI9 172 zY_172 zm_172 env (1150, 0, 2, 0, 0) 1151 := zi_aload_n (by decide +kernel : decode zY_172.2.1 1150 = .ok (.aload_n 2, 1)) rfl
theorem zf_zm_172_621 (env : List (Nat × Nat)) : zI9 172 zY_172 zm_172 env (1151, 0, 0, 0, 0) 1152 := zi_aload_n (by decide +kernel : decode zY_172.2.1 1151 = .ok (.aload_n 0, 1)) rfl
theorem zf_zm_172_622 (env : List (Nat × Nat)) : zI9 172 zY_172 zm_172 env (1152, 63, 4, 0, 0) 1154 := zi_iload (by decide +kernel : decode zY_172.2.1 1152 = .ok (.iload 4, 2))
theorem zf_zm_172_623 (env : List (Nat × Nat)) : zI9 172 zY_172 zm_172 env (1154, 2, 1, 0, 0) 1155 := zi_iconst (by decide +kernel : decode zY_172.2.1 1154 = .ok (.iconst 1, 1)) (by decide +kernel)
theorem zf_zm_172_624 (env : List (Nat × Nat)) : zI9 172 zY_172 zm_172 env (1155, 9, 0, 0, 0) 1156 := zi_iadd (by decide +kernel : decode zY_172.2.1 1155 = .ok (.iadd, 1))
theorem zf_zm_172_625 (env : List (Nat × Nat)) : zI9 172 zY_172 zm_172 env (1156, 8, 0, 0, 0) 1157 := zi_iald (zscr_ok (by decide +kernel : decode zY_172.2.1 1156 = .ok (.iaload, 1))) (by decide +kernel : decode zY_172.2.1 1156 = .ok (.iaload, 1))
theorem zf_zm_172_626 (env : List (Nat × Nat)) : zI9 172 zY_172 zm_172 env (1157, 0, 0, 0, 0) 1158 := zi_aload_n (by decide +kernel : decode zY_172.2.1 1157 = .ok (.aload_n 0, 1)) rfl
theorem zf_zm_172_627 (env : List (Nat × Nat)) : zI9 172 zY_172 zm_172 env (1158, 63, 4, 0, 0) 1160 := zi_iload (by decide +kernel : decode zY_172.2.1 1158 = .ok (.iload 4, 2))
theorem zf_zm_172_628 (env : List (Nat × Nat)) : zI9 172 zY_172 zm_172 env (1160, 2, 2, 0, 0) 1161 := zi_iconst (by decide +kernel : decode zY_172.2.1 1160 = .ok (.iconst 2, 1)) (by decide +kernel)
theorem zf_zm_172_629 (env : List (Nat × Nat)) : zI9 172 zY_172 zm_172 env (1161, 9, 0, 0, 0) 1162 := zi_iadd (by decide +kernel : decode zY_172.2.1 1161 = .ok (.iadd, 1))
theorem zf_zm_172_630 (env : List (Nat × Nat)) : zI9 172 zY_172 zm_172 env (1162, 8, 0, 0, 0) 1163 := zi_iald (zscr_ok (by decide +kernel : decode zY_172.2.1 1162 = .ok (.iaload, 1))) (by decide +kernel : decode zY_172.2.1 1162 = .ok (.iaload, 1))
theorem zf_zm_172_631 (env : List (Nat × Nat)) : zC9 172 zm_172 env (1163, 66, 62, 195, 3) := zi_call (by decide +kernel) (zr_V (i := 177) (n := 2) (q := ("TransportPairModel", zF_1, 23)) zX_ok rfl (zgood_62) (by decide +kernel) (zw_T zwd_250) (zw_T zwd_862) (zw_T zwd_863) rfl (zw_T zwd_864) ⟨by decide +kernel, by decide +kernel, by decide +kernel⟩ rfl (by decide +kernel : decode (zYf 172).2.1 1163 = .ok (.invokevirtual 177, 3)))
theorem zf_zm_172_632 (env : List (Nat × Nat)) : zI9 172 zY_172 zm_172 env (1166, 10, 6, 0, 0) 1168 := zi_istore (by decide +kernel : decode zY_172.2.1 1166 = .ok (.istore 6, 2)) (by decide)
theorem zf_zm_172_633 (env : List (Nat × Nat)) : zI9 172 zY_172 zm_172 env (1168, 0, 2, 0, 0) 1169 := zi_aload_n (by decide +kernel : decode zY_172.2.1 1168 = .ok (.aload_n 2, 1)) rfl
theorem zf_zm_172_634 (env : List (Nat × Nat)) : zC9 172 zm_172 env (1169, 66, 43, 65, 3) := zi_call (by decide +kernel) (zr_V (i := 122) (n := 0) (q := ("TransportPairModel", zF_1, 23)) zX_ok rfl (zgood_43) (by decide +kernel) (zw_T zwd_250) (zw_T zwd_787) (zw_T zwd_788) rfl (zw_T zwd_789) ⟨by decide +kernel, by decide +kernel, by decide +kernel⟩ rfl (by decide +kernel : decode (zYf 172).2.1 1169 = .ok (.invokevirtual 122, 3)))
theorem zf_zm_172_635 (env : List (Nat × Nat)) : zI9 172 zY_172 zm_172 env (1172, 63, 5, 0, 0) 1174 := zi_iload (by decide +kernel : decode zY_172.2.1 1172 = .ok (.iload 5, 2))
theorem zf_zm_172_636 (env : List (Nat × Nat)) : zI9 172 zY_172 zm_172 env (1174, 20, 638, 0, 0) 1177 := zi_icmp_eq (off := 5) (t := 1179) (by decide +kernel : decode zY_172.2.1 1174 = .ok (.if_icmp .eq 5, 3)) (by decide) (by decide +kernel)
theorem zf_zm_172_637 (env : List (Nat × Nat)) : zI9 172 zY_172 zm_172 env (1177, 99, 0, 0, 0) 1179 := zi_none
theorem zf_zm_172_638 (env : List (Nat × Nat)) : zI9 172 zY_172 zm_172 env (1179, 63, 5, 0, 0) 1181 := zi_iload (by decide +kernel : decode zY_172.2.1 1179 = .ok (.iload 5, 2))
theorem zf_zm_172_639 (env : List (Nat × Nat)) : zI9 172 zY_172 zm_172 env (1181, 6, 641, 0, 0) 1184 := zi_if_ne (off := 15) (t := 1196) (by decide +kernel : decode zY_172.2.1 1181 = .ok (.ifCond .ne 15, 3)) (by decide) (by decide +kernel)
theorem zf_zm_172_640 (env : List (Nat × Nat)) : zI9 172 zY_172 zm_172 env (1184, 99, 0, 0, 0) 1196 := zi_none
theorem zf_zm_172_641 (env : List (Nat × Nat)) : zI9 172 zY_172 zm_172 env (1196, 7, 1145, 0, 0) 1199 := zi_goto (off := 832) (t := 2028) (by decide +kernel : decode zY_172.2.1 1196 = .ok (.goto 832, 3)) (by decide) (by decide +kernel)
theorem zf_zm_172_642 (env : List (Nat × Nat)) : zI9 172 zY_172 zm_172 env (1199, 0, 1, 0, 0) 1200 := zi_aload_n (by decide +kernel : decode zY_172.2.1 1199 = .ok (.aload_n 1, 1)) rfl
theorem zf_zm_172_643 (env : List (Nat × Nat)) : zI9 172 zY_172 zm_172 env (1200, 0, 0, 0, 0) 1201 := zi_aload_n (by decide +kernel : decode zY_172.2.1 1200 = .ok (.aload_n 0, 1)) rfl
theorem zf_zm_172_644 (env : List (Nat × Nat)) : zI9 172 zY_172 zm_172 env (1201, 63, 4, 0, 0) 1203 := zi_iload (by decide +kernel : decode zY_172.2.1 1201 = .ok (.iload 4, 2))
theorem zf_zm_172_645 (env : List (Nat × Nat)) : zI9 172 zY_172 zm_172 env (1203, 2, 1, 0, 0) 1204 := zi_iconst (by decide +kernel : decode zY_172.2.1 1203 = .ok (.iconst 1, 1)) (by decide +kernel)
theorem zf_zm_172_646 (env : List (Nat × Nat)) : zI9 172 zY_172 zm_172 env (1204, 9, 0, 0, 0) 1205 := zi_iadd (by decide +kernel : decode zY_172.2.1 1204 = .ok (.iadd, 1))
theorem zf_zm_172_647 (env : List (Nat × Nat)) : zI9 172 zY_172 zm_172 env (1205, 8, 0, 0, 0) 1206 := zi_iald (zscr_ok (by decide +kernel : decode zY_172.2.1 1205 = .ok (.iaload, 1))) (by decide +kernel : decode zY_172.2.1 1205 = .ok (.iaload, 1))
theorem zf_zm_172_648 (env : List (Nat × Nat)) : zI9 172 zY_172 zm_172 env (1206, 0, 0, 0, 0) 1207 := zi_aload_n (by decide +kernel : decode zY_172.2.1 1206 = .ok (.aload_n 0, 1)) rfl
theorem zf_zm_172_649 (env : List (Nat × Nat)) : zI9 172 zY_172 zm_172 env (1207, 63, 4, 0, 0) 1209 := zi_iload (by decide +kernel : decode zY_172.2.1 1207 = .ok (.iload 4, 2))
theorem zf_zm_172_650 (env : List (Nat × Nat)) : zI9 172 zY_172 zm_172 env (1209, 2, 2, 0, 0) 1210 := zi_iconst (by decide +kernel : decode zY_172.2.1 1209 = .ok (.iconst 2, 1)) (by decide +kernel)
theorem zf_zm_172_651 (env : List (Nat × Nat)) : zI9 172 zY_172 zm_172 env (1210, 9, 0, 0, 0) 1211 := zi_iadd (by decide +kernel : decode zY_172.2.1 1210 = .ok (.iadd, 1))
theorem zf_zm_172_652 (env : List (Nat × Nat)) : zI9 172 zY_172 zm_172 env (1211, 8, 0, 0, 0) 1212 := zi_iald (zscr_ok (by decide +kernel : decode zY_172.2.1 1211 = .ok (.iaload, 1))) (by decide +kernel : decode zY_172.2.1 1211 = .ok (.iaload, 1))
theorem zf_zm_172_653 (env : List (Nat × Nat)) : zI9 172 zY_172 zm_172 env (1212, 0, 3, 0, 0) 1213 := zi_aload_n (by decide +kernel : decode zY_172.2.1 1212 = .ok (.aload_n 3, 1)) rfl
theorem zf_zm_172_654 (env : List (Nat × Nat)) : zC9 172 zm_172 env (1213, 66, 158, 261, 0) := zi_call (by decide +kernel) (zr_SW (i := 178) zX_ok rfl (zgood_158) (by decide +kernel) (zw_T zwd_781) (zw_T zwd_865) (zw_T zwd_866) ⟨by decide +kernel, by decide +kernel, by decide +kernel⟩ (by decide +kernel : decode (zYf 172).2.1 1213 = .ok (.invokestatic 178, 3)))
theorem zf_zm_172_655 (env : List (Nat × Nat)) : zI9 172 zY_172 zm_172 env (1216, 10, 5, 0, 0) 1218 := zi_istore (by decide +kernel : decode zY_172.2.1 1216 = .ok (.istore 5, 2)) (by decide)
theorem zf_zm_172_656 (env : List (Nat × Nat)) : zI9 172 zY_172 zm_172 env (1218, 0, 2, 0, 0) 1219 := zi_aload_n (by decide +kernel : decode zY_172.2.1 1218 = .ok (.aload_n 2, 1)) rfl
theorem zf_zm_172_657 (env : List (Nat × Nat)) : zI9 172 zY_172 zm_172 env (1219, 0, 0, 0, 0) 1220 := zi_aload_n (by decide +kernel : decode zY_172.2.1 1219 = .ok (.aload_n 0, 1)) rfl
theorem zf_zm_172_658 (env : List (Nat × Nat)) : zI9 172 zY_172 zm_172 env (1220, 63, 4, 0, 0) 1222 := zi_iload (by decide +kernel : decode zY_172.2.1 1220 = .ok (.iload 4, 2))
theorem zf_zm_172_659 (env : List (Nat × Nat)) : zI9 172 zY_172 zm_172 env (1222, 2, 1, 0, 0) 1223 := zi_iconst (by decide +kernel : decode zY_172.2.1 1222 = .ok (.iconst 1, 1)) (by decide +kernel)
theorem zf_zm_172_660 (env : List (Nat × Nat)) : zI9 172 zY_172 zm_172 env (1223, 9, 0, 0, 0) 1224 := zi_iadd (by decide +kernel : decode zY_172.2.1 1223 = .ok (.iadd, 1))
theorem zf_zm_172_661 (env : List (Nat × Nat)) : zI9 172 zY_172 zm_172 env (1224, 8, 0, 0, 0) 1225 := zi_iald (zscr_ok (by decide +kernel : decode zY_172.2.1 1224 = .ok (.iaload, 1))) (by decide +kernel : decode zY_172.2.1 1224 = .ok (.iaload, 1))
theorem zf_zm_172_662 (env : List (Nat × Nat)) : zI9 172 zY_172 zm_172 env (1225, 0, 0, 0, 0) 1226 := zi_aload_n (by decide +kernel : decode zY_172.2.1 1225 = .ok (.aload_n 0, 1)) rfl
theorem zf_zm_172_663 (env : List (Nat × Nat)) : zI9 172 zY_172 zm_172 env (1226, 63, 4, 0, 0) 1228 := zi_iload (by decide +kernel : decode zY_172.2.1 1226 = .ok (.iload 4, 2))
theorem zf_zm_172_664 (env : List (Nat × Nat)) : zI9 172 zY_172 zm_172 env (1228, 2, 2, 0, 0) 1229 := zi_iconst (by decide +kernel : decode zY_172.2.1 1228 = .ok (.iconst 2, 1)) (by decide +kernel)
theorem zf_zm_172_665 (env : List (Nat × Nat)) : zI9 172 zY_172 zm_172 env (1229, 9, 0, 0, 0) 1230 := zi_iadd (by decide +kernel : decode zY_172.2.1 1229 = .ok (.iadd, 1))
theorem zf_zm_172_666 (env : List (Nat × Nat)) : zI9 172 zY_172 zm_172 env (1230, 8, 0, 0, 0) 1231 := zi_iald (zscr_ok (by decide +kernel : decode zY_172.2.1 1230 = .ok (.iaload, 1))) (by decide +kernel : decode zY_172.2.1 1230 = .ok (.iaload, 1))
theorem zf_zm_172_667 (env : List (Nat × Nat)) : zC9 172 zm_172 env (1231, 66, 63, 195, 3) := zi_call (by decide +kernel) (zr_V (i := 180) (n := 2) (q := ("TransportPairModel", zF_1, 23)) zX_ok rfl (zgood_63) (by decide +kernel) (zw_T zwd_250) (zw_T zwd_867) (zw_T zwd_868) rfl (zw_T zwd_869) ⟨by decide +kernel, by decide +kernel, by decide +kernel⟩ rfl (by decide +kernel : decode (zYf 172).2.1 1231 = .ok (.invokevirtual 180, 3)))
theorem zf_zm_172_668 (env : List (Nat × Nat)) : zI9 172 zY_172 zm_172 env (1234, 10, 6, 0, 0) 1236 := zi_istore (by decide +kernel : decode zY_172.2.1 1234 = .ok (.istore 6, 2)) (by decide)
theorem zf_zm_172_669 (env : List (Nat × Nat)) : zI9 172 zY_172 zm_172 env (1236, 0, 2, 0, 0) 1237 := zi_aload_n (by decide +kernel : decode zY_172.2.1 1236 = .ok (.aload_n 2, 1)) rfl
theorem zf_zm_172_670 (env : List (Nat × Nat)) : zC9 172 zm_172 env (1237, 66, 43, 65, 3) := zi_call (by decide +kernel) (zr_V (i := 122) (n := 0) (q := ("TransportPairModel", zF_1, 23)) zX_ok rfl (zgood_43) (by decide +kernel) (zw_T zwd_250) (zw_T zwd_787) (zw_T zwd_788) rfl (zw_T zwd_789) ⟨by decide +kernel, by decide +kernel, by decide +kernel⟩ rfl (by decide +kernel : decode (zYf 172).2.1 1237 = .ok (.invokevirtual 122, 3)))
theorem zf_zm_172_671 (env : List (Nat × Nat)) : zI9 172 zY_172 zm_172 env (1240, 63, 5, 0, 0) 1242 := zi_iload (by decide +kernel : decode zY_172.2.1 1240 = .ok (.iload 5, 2))
theorem zf_zm_172_672 (env : List (Nat × Nat)) : zI9 172 zY_172 zm_172 env (1242, 20, 674, 0, 0) 1245 := zi_icmp_eq (off := 5) (t := 1247) (by decide +kernel : decode zY_172.2.1 1242 = .ok (.if_icmp .eq 5, 3)) (by decide) (by decide +kernel)
theorem zf_zm_172_673 (env : List (Nat × Nat)) : zI9 172 zY_172 zm_172 env (1245, 99, 0, 0, 0) 1247 := zi_none
theorem zf_zm_172_674 (env : List (Nat × Nat)) : zI9 172 zY_172 zm_172 env (1247, 63, 5, 0, 0) 1249 := zi_iload (by decide +kernel : decode zY_172.2.1 1247 = .ok (.iload 5, 2))
theorem zf_zm_172_675 (env : List (Nat × Nat)) : zI9 172 zY_172 zm_172 env (1249, 6, 677, 0, 0) 1252 := zi_if_ne (off := 15) (t := 1264) (by decide +kernel : decode zY_172.2.1 1249 = .ok (.ifCond .ne 15, 3)) (by decide) (by decide +kernel)
theorem zf_zm_172_676 (env : List (Nat × Nat)) : zI9 172 zY_172 zm_172 env (1252, 99, 0, 0, 0) 1264 := zi_none
theorem zf_zm_172_677 (env : List (Nat × Nat)) : zI9 172 zY_172 zm_172 env (1264, 7, 1145, 0, 0) 1267 := zi_goto (off := 764) (t := 2028) (by decide +kernel : decode zY_172.2.1 1264 = .ok (.goto 764, 3)) (by decide) (by decide +kernel)
theorem zf_zm_172_678 (env : List (Nat × Nat)) : zI9 172 zY_172 zm_172 env (1267, 0, 1, 0, 0) 1268 := zi_aload_n (by decide +kernel : decode zY_172.2.1 1267 = .ok (.aload_n 1, 1)) rfl
theorem zf_zm_172_679 (env : List (Nat × Nat)) : zI9 172 zY_172 zm_172 env (1268, 0, 0, 0, 0) 1269 := zi_aload_n (by decide +kernel : decode zY_172.2.1 1268 = .ok (.aload_n 0, 1)) rfl
theorem zf_zm_172_680 (env : List (Nat × Nat)) : zI9 172 zY_172 zm_172 env (1269, 63, 4, 0, 0) 1271 := zi_iload (by decide +kernel : decode zY_172.2.1 1269 = .ok (.iload 4, 2))
theorem zf_zm_172_681 (env : List (Nat × Nat)) : zI9 172 zY_172 zm_172 env (1271, 2, 1, 0, 0) 1272 := zi_iconst (by decide +kernel : decode zY_172.2.1 1271 = .ok (.iconst 1, 1)) (by decide +kernel)
theorem zf_zm_172_682 (env : List (Nat × Nat)) : zI9 172 zY_172 zm_172 env (1272, 9, 0, 0, 0) 1273 := zi_iadd (by decide +kernel : decode zY_172.2.1 1272 = .ok (.iadd, 1))
theorem zf_zm_172_683 (env : List (Nat × Nat)) : zI9 172 zY_172 zm_172 env (1273, 8, 0, 0, 0) 1274 := zi_iald (zscr_ok (by decide +kernel : decode zY_172.2.1 1273 = .ok (.iaload, 1))) (by decide +kernel : decode zY_172.2.1 1273 = .ok (.iaload, 1))
theorem zf_zm_172_684 (env : List (Nat × Nat)) : zI9 172 zY_172 zm_172 env (1274, 0, 0, 0, 0) 1275 := zi_aload_n (by decide +kernel : decode zY_172.2.1 1274 = .ok (.aload_n 0, 1)) rfl
theorem zf_zm_172_685 (env : List (Nat × Nat)) : zI9 172 zY_172 zm_172 env (1275, 63, 4, 0, 0) 1277 := zi_iload (by decide +kernel : decode zY_172.2.1 1275 = .ok (.iload 4, 2))
theorem zf_zm_172_686 (env : List (Nat × Nat)) : zI9 172 zY_172 zm_172 env (1277, 2, 2, 0, 0) 1278 := zi_iconst (by decide +kernel : decode zY_172.2.1 1277 = .ok (.iconst 2, 1)) (by decide +kernel)
theorem zf_zm_172_687 (env : List (Nat × Nat)) : zI9 172 zY_172 zm_172 env (1278, 9, 0, 0, 0) 1279 := zi_iadd (by decide +kernel : decode zY_172.2.1 1278 = .ok (.iadd, 1))
theorem zf_zm_172_688 (env : List (Nat × Nat)) : zI9 172 zY_172 zm_172 env (1279, 8, 0, 0, 0) 1280 := zi_iald (zscr_ok (by decide +kernel : decode zY_172.2.1 1279 = .ok (.iaload, 1))) (by decide +kernel : decode zY_172.2.1 1279 = .ok (.iaload, 1))
theorem zf_zm_172_689 (env : List (Nat × Nat)) : zI9 172 zY_172 zm_172 env (1280, 0, 3, 0, 0) 1281 := zi_aload_n (by decide +kernel : decode zY_172.2.1 1280 = .ok (.aload_n 3, 1)) rfl
theorem zf_zm_172_690 (env : List (Nat × Nat)) : zC9 172 zm_172 env (1281, 66, 159, 261, 0) := zi_call (by decide +kernel) (zr_SW (i := 181) zX_ok rfl (zgood_159) (by decide +kernel) (zw_T zwd_781) (zw_T zwd_870) (zw_T zwd_871) ⟨by decide +kernel, by decide +kernel, by decide +kernel⟩ (by decide +kernel : decode (zYf 172).2.1 1281 = .ok (.invokestatic 181, 3)))
theorem zf_zm_172_691 (env : List (Nat × Nat)) : zI9 172 zY_172 zm_172 env (1284, 10, 5, 0, 0) 1286 := zi_istore (by decide +kernel : decode zY_172.2.1 1284 = .ok (.istore 5, 2)) (by decide)
theorem zf_zm_172_692 (env : List (Nat × Nat)) : zI9 172 zY_172 zm_172 env (1286, 0, 2, 0, 0) 1287 := zi_aload_n (by decide +kernel : decode zY_172.2.1 1286 = .ok (.aload_n 2, 1)) rfl
theorem zf_zm_172_693 (env : List (Nat × Nat)) : zI9 172 zY_172 zm_172 env (1287, 0, 0, 0, 0) 1288 := zi_aload_n (by decide +kernel : decode zY_172.2.1 1287 = .ok (.aload_n 0, 1)) rfl
theorem zf_zm_172_694 (env : List (Nat × Nat)) : zI9 172 zY_172 zm_172 env (1288, 63, 4, 0, 0) 1290 := zi_iload (by decide +kernel : decode zY_172.2.1 1288 = .ok (.iload 4, 2))
theorem zf_zm_172_695 (env : List (Nat × Nat)) : zI9 172 zY_172 zm_172 env (1290, 2, 1, 0, 0) 1291 := zi_iconst (by decide +kernel : decode zY_172.2.1 1290 = .ok (.iconst 1, 1)) (by decide +kernel)
theorem zf_zm_172_696 (env : List (Nat × Nat)) : zI9 172 zY_172 zm_172 env (1291, 9, 0, 0, 0) 1292 := zi_iadd (by decide +kernel : decode zY_172.2.1 1291 = .ok (.iadd, 1))
theorem zf_zm_172_697 (env : List (Nat × Nat)) : zI9 172 zY_172 zm_172 env (1292, 8, 0, 0, 0) 1293 := zi_iald (zscr_ok (by decide +kernel : decode zY_172.2.1 1292 = .ok (.iaload, 1))) (by decide +kernel : decode zY_172.2.1 1292 = .ok (.iaload, 1))
theorem zf_zm_172_698 (env : List (Nat × Nat)) : zI9 172 zY_172 zm_172 env (1293, 0, 0, 0, 0) 1294 := zi_aload_n (by decide +kernel : decode zY_172.2.1 1293 = .ok (.aload_n 0, 1)) rfl
theorem zf_zm_172_699 (env : List (Nat × Nat)) : zI9 172 zY_172 zm_172 env (1294, 63, 4, 0, 0) 1296 := zi_iload (by decide +kernel : decode zY_172.2.1 1294 = .ok (.iload 4, 2))
theorem zf_zm_172_700 (env : List (Nat × Nat)) : zI9 172 zY_172 zm_172 env (1296, 2, 2, 0, 0) 1297 := zi_iconst (by decide +kernel : decode zY_172.2.1 1296 = .ok (.iconst 2, 1)) (by decide +kernel)
theorem zf_zm_172_701 (env : List (Nat × Nat)) : zI9 172 zY_172 zm_172 env (1297, 9, 0, 0, 0) 1298 := zi_iadd (by decide +kernel : decode zY_172.2.1 1297 = .ok (.iadd, 1))
theorem zf_zm_172_702 (env : List (Nat × Nat)) : zI9 172 zY_172 zm_172 env (1298, 8, 0, 0, 0) 1299 := zi_iald (zscr_ok (by decide +kernel : decode zY_172.2.1 1298 = .ok (.iaload, 1))) (by decide +kernel : decode zY_172.2.1 1298 = .ok (.iaload, 1))
theorem zf_zm_172_703 (env : List (Nat × Nat)) : zC9 172 zm_172 env (1299, 66, 64, 195, 3) := zi_call (by decide +kernel) (zr_V (i := 183) (n := 2) (q := ("TransportPairModel", zF_1, 23)) zX_ok rfl (zgood_64) (by decide +kernel) (zw_T zwd_250) (zw_T zwd_872) (zw_T zwd_873) rfl (zw_T zwd_874) ⟨by decide +kernel, by decide +kernel, by decide +kernel⟩ rfl (by decide +kernel : decode (zYf 172).2.1 1299 = .ok (.invokevirtual 183, 3)))
theorem zf_zm_172_704 (env : List (Nat × Nat)) : zI9 172 zY_172 zm_172 env (1302, 10, 6, 0, 0) 1304 := zi_istore (by decide +kernel : decode zY_172.2.1 1302 = .ok (.istore 6, 2)) (by decide)
theorem zf_zm_172_705 (env : List (Nat × Nat)) : zI9 172 zY_172 zm_172 env (1304, 0, 2, 0, 0) 1305 := zi_aload_n (by decide +kernel : decode zY_172.2.1 1304 = .ok (.aload_n 2, 1)) rfl
theorem zf_zm_172_706 (env : List (Nat × Nat)) : zC9 172 zm_172 env (1305, 66, 43, 65, 3) := zi_call (by decide +kernel) (zr_V (i := 122) (n := 0) (q := ("TransportPairModel", zF_1, 23)) zX_ok rfl (zgood_43) (by decide +kernel) (zw_T zwd_250) (zw_T zwd_787) (zw_T zwd_788) rfl (zw_T zwd_789) ⟨by decide +kernel, by decide +kernel, by decide +kernel⟩ rfl (by decide +kernel : decode (zYf 172).2.1 1305 = .ok (.invokevirtual 122, 3)))
theorem zf_zm_172_707 (env : List (Nat × Nat)) : zI9 172 zY_172 zm_172 env (1308, 63, 5, 0, 0) 1310 := zi_iload (by decide +kernel : decode zY_172.2.1 1308 = .ok (.iload 5, 2))
theorem zf_zm_172_708 (env : List (Nat × Nat)) : zI9 172 zY_172 zm_172 env (1310, 20, 710, 0, 0) 1313 := zi_icmp_eq (off := 5) (t := 1315) (by decide +kernel : decode zY_172.2.1 1310 = .ok (.if_icmp .eq 5, 3)) (by decide) (by decide +kernel)
theorem zf_zm_172_709 (env : List (Nat × Nat)) : zI9 172 zY_172 zm_172 env (1313, 99, 0, 0, 0) 1315 := zi_none
theorem zf_zm_172_710 (env : List (Nat × Nat)) : zI9 172 zY_172 zm_172 env (1315, 63, 5, 0, 0) 1317 := zi_iload (by decide +kernel : decode zY_172.2.1 1315 = .ok (.iload 5, 2))
theorem zf_zm_172_711 (env : List (Nat × Nat)) : zI9 172 zY_172 zm_172 env (1317, 6, 713, 0, 0) 1320 := zi_if_ne (off := 15) (t := 1332) (by decide +kernel : decode zY_172.2.1 1317 = .ok (.ifCond .ne 15, 3)) (by decide) (by decide +kernel)
theorem zf_zm_172_712 (env : List (Nat × Nat)) : zI9 172 zY_172 zm_172 env (1320, 99, 0, 0, 0) 1332 := zi_none
theorem zf_zm_172_713 (env : List (Nat × Nat)) : zI9 172 zY_172 zm_172 env (1332, 7, 1145, 0, 0) 1335 := zi_goto (off := 696) (t := 2028) (by decide +kernel : decode zY_172.2.1 1332 = .ok (.goto 696, 3)) (by decide) (by decide +kernel)
theorem zf_zm_172_714 (env : List (Nat × Nat)) : zI9 172 zY_172 zm_172 env (1335, 0, 1, 0, 0) 1336 := zi_aload_n (by decide +kernel : decode zY_172.2.1 1335 = .ok (.aload_n 1, 1)) rfl
theorem zf_zm_172_715 (env : List (Nat × Nat)) : zI9 172 zY_172 zm_172 env (1336, 0, 0, 0, 0) 1337 := zi_aload_n (by decide +kernel : decode zY_172.2.1 1336 = .ok (.aload_n 0, 1)) rfl
theorem zf_zm_172_716 (env : List (Nat × Nat)) : zI9 172 zY_172 zm_172 env (1337, 63, 4, 0, 0) 1339 := zi_iload (by decide +kernel : decode zY_172.2.1 1337 = .ok (.iload 4, 2))
theorem zf_zm_172_717 (env : List (Nat × Nat)) : zI9 172 zY_172 zm_172 env (1339, 2, 1, 0, 0) 1340 := zi_iconst (by decide +kernel : decode zY_172.2.1 1339 = .ok (.iconst 1, 1)) (by decide +kernel)
theorem zf_zm_172_718 (env : List (Nat × Nat)) : zI9 172 zY_172 zm_172 env (1340, 9, 0, 0, 0) 1341 := zi_iadd (by decide +kernel : decode zY_172.2.1 1340 = .ok (.iadd, 1))
theorem zf_zm_172_719 (env : List (Nat × Nat)) : zI9 172 zY_172 zm_172 env (1341, 8, 0, 0, 0) 1342 := zi_iald (zscr_ok (by decide +kernel : decode zY_172.2.1 1341 = .ok (.iaload, 1))) (by decide +kernel : decode zY_172.2.1 1341 = .ok (.iaload, 1))
theorem zf_zm_172_720 (env : List (Nat × Nat)) : zI9 172 zY_172 zm_172 env (1342, 0, 0, 0, 0) 1343 := zi_aload_n (by decide +kernel : decode zY_172.2.1 1342 = .ok (.aload_n 0, 1)) rfl
theorem zf_zm_172_721 (env : List (Nat × Nat)) : zI9 172 zY_172 zm_172 env (1343, 63, 4, 0, 0) 1345 := zi_iload (by decide +kernel : decode zY_172.2.1 1343 = .ok (.iload 4, 2))
theorem zf_zm_172_722 (env : List (Nat × Nat)) : zI9 172 zY_172 zm_172 env (1345, 2, 2, 0, 0) 1346 := zi_iconst (by decide +kernel : decode zY_172.2.1 1345 = .ok (.iconst 2, 1)) (by decide +kernel)
theorem zf_zm_172_723 (env : List (Nat × Nat)) : zI9 172 zY_172 zm_172 env (1346, 9, 0, 0, 0) 1347 := zi_iadd (by decide +kernel : decode zY_172.2.1 1346 = .ok (.iadd, 1))
theorem zf_zm_172_724 (env : List (Nat × Nat)) : zI9 172 zY_172 zm_172 env (1347, 8, 0, 0, 0) 1348 := zi_iald (zscr_ok (by decide +kernel : decode zY_172.2.1 1347 = .ok (.iaload, 1))) (by decide +kernel : decode zY_172.2.1 1347 = .ok (.iaload, 1))
theorem zf_zm_172_725 (env : List (Nat × Nat)) : zI9 172 zY_172 zm_172 env (1348, 0, 0, 0, 0) 1349 := zi_aload_n (by decide +kernel : decode zY_172.2.1 1348 = .ok (.aload_n 0, 1)) rfl
theorem zf_zm_172_726 (env : List (Nat × Nat)) : zI9 172 zY_172 zm_172 env (1349, 63, 4, 0, 0) 1351 := zi_iload (by decide +kernel : decode zY_172.2.1 1349 = .ok (.iload 4, 2))
theorem zf_zm_172_727 (env : List (Nat × Nat)) : zI9 172 zY_172 zm_172 env (1351, 2, 3, 0, 0) 1352 := zi_iconst (by decide +kernel : decode zY_172.2.1 1351 = .ok (.iconst 3, 1)) (by decide +kernel)
theorem zf_zm_172_728 (env : List (Nat × Nat)) : zI9 172 zY_172 zm_172 env (1352, 9, 0, 0, 0) 1353 := zi_iadd (by decide +kernel : decode zY_172.2.1 1352 = .ok (.iadd, 1))
theorem zf_zm_172_729 (env : List (Nat × Nat)) : zI9 172 zY_172 zm_172 env (1353, 8, 0, 0, 0) 1354 := zi_iald (zscr_ok (by decide +kernel : decode zY_172.2.1 1353 = .ok (.iaload, 1))) (by decide +kernel : decode zY_172.2.1 1353 = .ok (.iaload, 1))
theorem zf_zm_172_730 (env : List (Nat × Nat)) : zI9 172 zY_172 zm_172 env (1354, 0, 0, 0, 0) 1355 := zi_aload_n (by decide +kernel : decode zY_172.2.1 1354 = .ok (.aload_n 0, 1)) rfl
theorem zf_zm_172_731 (env : List (Nat × Nat)) : zI9 172 zY_172 zm_172 env (1355, 63, 4, 0, 0) 1357 := zi_iload (by decide +kernel : decode zY_172.2.1 1355 = .ok (.iload 4, 2))
theorem zf_zm_172_732 (env : List (Nat × Nat)) : zI9 172 zY_172 zm_172 env (1357, 2, 4, 0, 0) 1358 := zi_iconst (by decide +kernel : decode zY_172.2.1 1357 = .ok (.iconst 4, 1)) (by decide +kernel)
theorem zf_zm_172_733 (env : List (Nat × Nat)) : zI9 172 zY_172 zm_172 env (1358, 9, 0, 0, 0) 1359 := zi_iadd (by decide +kernel : decode zY_172.2.1 1358 = .ok (.iadd, 1))
theorem zf_zm_172_734 (env : List (Nat × Nat)) : zI9 172 zY_172 zm_172 env (1359, 8, 0, 0, 0) 1360 := zi_iald (zscr_ok (by decide +kernel : decode zY_172.2.1 1359 = .ok (.iaload, 1))) (by decide +kernel : decode zY_172.2.1 1359 = .ok (.iaload, 1))
theorem zf_zm_172_735 (env : List (Nat × Nat)) : zI9 172 zY_172 zm_172 env (1360, 0, 3, 0, 0) 1361 := zi_aload_n (by decide +kernel : decode zY_172.2.1 1360 = .ok (.aload_n 3, 1)) rfl
theorem zf_zm_172_736 (env : List (Nat × Nat)) : zC9 172 zm_172 env (1361, 66, 160, 391, 0) := zi_call (by decide +kernel) (zr_SW (i := 184) zX_ok rfl (zgood_160) (by decide +kernel) (zw_T zwd_781) (zw_T zwd_875) (zw_T zwd_876) ⟨by decide +kernel, by decide +kernel, by decide +kernel⟩ (by decide +kernel : decode (zYf 172).2.1 1361 = .ok (.invokestatic 184, 3)))
theorem zf_zm_172_737 (env : List (Nat × Nat)) : zI9 172 zY_172 zm_172 env (1364, 10, 5, 0, 0) 1366 := zi_istore (by decide +kernel : decode zY_172.2.1 1364 = .ok (.istore 5, 2)) (by decide)
theorem zf_zm_172_738 (env : List (Nat × Nat)) : zI9 172 zY_172 zm_172 env (1366, 0, 2, 0, 0) 1367 := zi_aload_n (by decide +kernel : decode zY_172.2.1 1366 = .ok (.aload_n 2, 1)) rfl
theorem zf_zm_172_739 (env : List (Nat × Nat)) : zI9 172 zY_172 zm_172 env (1367, 0, 0, 0, 0) 1368 := zi_aload_n (by decide +kernel : decode zY_172.2.1 1367 = .ok (.aload_n 0, 1)) rfl
theorem zf_zm_172_740 (env : List (Nat × Nat)) : zI9 172 zY_172 zm_172 env (1368, 63, 4, 0, 0) 1370 := zi_iload (by decide +kernel : decode zY_172.2.1 1368 = .ok (.iload 4, 2))
theorem zf_zm_172_741 (env : List (Nat × Nat)) : zI9 172 zY_172 zm_172 env (1370, 2, 1, 0, 0) 1371 := zi_iconst (by decide +kernel : decode zY_172.2.1 1370 = .ok (.iconst 1, 1)) (by decide +kernel)
theorem zf_zm_172_742 (env : List (Nat × Nat)) : zI9 172 zY_172 zm_172 env (1371, 9, 0, 0, 0) 1372 := zi_iadd (by decide +kernel : decode zY_172.2.1 1371 = .ok (.iadd, 1))
theorem zf_zm_172_743 (env : List (Nat × Nat)) : zI9 172 zY_172 zm_172 env (1372, 8, 0, 0, 0) 1373 := zi_iald (zscr_ok (by decide +kernel : decode zY_172.2.1 1372 = .ok (.iaload, 1))) (by decide +kernel : decode zY_172.2.1 1372 = .ok (.iaload, 1))
theorem zf_zm_172_744 (env : List (Nat × Nat)) : zI9 172 zY_172 zm_172 env (1373, 0, 0, 0, 0) 1374 := zi_aload_n (by decide +kernel : decode zY_172.2.1 1373 = .ok (.aload_n 0, 1)) rfl
theorem zf_zm_172_745 (env : List (Nat × Nat)) : zI9 172 zY_172 zm_172 env (1374, 63, 4, 0, 0) 1376 := zi_iload (by decide +kernel : decode zY_172.2.1 1374 = .ok (.iload 4, 2))
theorem zf_zm_172_746 (env : List (Nat × Nat)) : zI9 172 zY_172 zm_172 env (1376, 2, 2, 0, 0) 1377 := zi_iconst (by decide +kernel : decode zY_172.2.1 1376 = .ok (.iconst 2, 1)) (by decide +kernel)
theorem zf_zm_172_747 (env : List (Nat × Nat)) : zI9 172 zY_172 zm_172 env (1377, 9, 0, 0, 0) 1378 := zi_iadd (by decide +kernel : decode zY_172.2.1 1377 = .ok (.iadd, 1))
theorem zf_zm_172_748 (env : List (Nat × Nat)) : zI9 172 zY_172 zm_172 env (1378, 8, 0, 0, 0) 1379 := zi_iald (zscr_ok (by decide +kernel : decode zY_172.2.1 1378 = .ok (.iaload, 1))) (by decide +kernel : decode zY_172.2.1 1378 = .ok (.iaload, 1))
theorem zf_zm_172_749 (env : List (Nat × Nat)) : zI9 172 zY_172 zm_172 env (1379, 0, 0, 0, 0) 1380 := zi_aload_n (by decide +kernel : decode zY_172.2.1 1379 = .ok (.aload_n 0, 1)) rfl
theorem zf_zm_172_750 (env : List (Nat × Nat)) : zI9 172 zY_172 zm_172 env (1380, 63, 4, 0, 0) 1382 := zi_iload (by decide +kernel : decode zY_172.2.1 1380 = .ok (.iload 4, 2))
theorem zf_zm_172_751 (env : List (Nat × Nat)) : zI9 172 zY_172 zm_172 env (1382, 2, 3, 0, 0) 1383 := zi_iconst (by decide +kernel : decode zY_172.2.1 1382 = .ok (.iconst 3, 1)) (by decide +kernel)
theorem zf_zm_172_752 (env : List (Nat × Nat)) : zI9 172 zY_172 zm_172 env (1383, 9, 0, 0, 0) 1384 := zi_iadd (by decide +kernel : decode zY_172.2.1 1383 = .ok (.iadd, 1))
theorem zf_zm_172_753 (env : List (Nat × Nat)) : zI9 172 zY_172 zm_172 env (1384, 8, 0, 0, 0) 1385 := zi_iald (zscr_ok (by decide +kernel : decode zY_172.2.1 1384 = .ok (.iaload, 1))) (by decide +kernel : decode zY_172.2.1 1384 = .ok (.iaload, 1))
theorem zf_zm_172_754 (env : List (Nat × Nat)) : zI9 172 zY_172 zm_172 env (1385, 0, 0, 0, 0) 1386 := zi_aload_n (by decide +kernel : decode zY_172.2.1 1385 = .ok (.aload_n 0, 1)) rfl
theorem zf_zm_172_755 (env : List (Nat × Nat)) : zI9 172 zY_172 zm_172 env (1386, 63, 4, 0, 0) 1388 := zi_iload (by decide +kernel : decode zY_172.2.1 1386 = .ok (.iload 4, 2))
theorem zf_zm_172_756 (env : List (Nat × Nat)) : zI9 172 zY_172 zm_172 env (1388, 2, 4, 0, 0) 1389 := zi_iconst (by decide +kernel : decode zY_172.2.1 1388 = .ok (.iconst 4, 1)) (by decide +kernel)
theorem zf_zm_172_757 (env : List (Nat × Nat)) : zI9 172 zY_172 zm_172 env (1389, 9, 0, 0, 0) 1390 := zi_iadd (by decide +kernel : decode zY_172.2.1 1389 = .ok (.iadd, 1))
theorem zf_zm_172_758 (env : List (Nat × Nat)) : zI9 172 zY_172 zm_172 env (1390, 8, 0, 0, 0) 1391 := zi_iald (zscr_ok (by decide +kernel : decode zY_172.2.1 1390 = .ok (.iaload, 1))) (by decide +kernel : decode zY_172.2.1 1390 = .ok (.iaload, 1))
theorem zf_zm_172_759 (env : List (Nat × Nat)) : zC9 172 zm_172 env (1391, 66, 65, 326, 3) := zi_call (by decide +kernel) (zr_V (i := 187) (n := 4) (q := ("TransportPairModel", zF_1, 23)) zX_ok rfl (zgood_65) (by decide +kernel) (zw_T zwd_250) (zw_T zwd_877) (zw_T zwd_878) rfl (zw_T zwd_879) ⟨by decide +kernel, by decide +kernel, by decide +kernel⟩ rfl (by decide +kernel : decode (zYf 172).2.1 1391 = .ok (.invokevirtual 187, 3)))
theorem zf_zm_172_760 (env : List (Nat × Nat)) : zI9 172 zY_172 zm_172 env (1394, 10, 6, 0, 0) 1396 := zi_istore (by decide +kernel : decode zY_172.2.1 1394 = .ok (.istore 6, 2)) (by decide)
theorem zf_zm_172_761 (env : List (Nat × Nat)) : zI9 172 zY_172 zm_172 env (1396, 0, 2, 0, 0) 1397 := zi_aload_n (by decide +kernel : decode zY_172.2.1 1396 = .ok (.aload_n 2, 1)) rfl
theorem zf_zm_172_762 (env : List (Nat × Nat)) : zC9 172 zm_172 env (1397, 66, 43, 65, 3) := zi_call (by decide +kernel) (zr_V (i := 122) (n := 0) (q := ("TransportPairModel", zF_1, 23)) zX_ok rfl (zgood_43) (by decide +kernel) (zw_T zwd_250) (zw_T zwd_787) (zw_T zwd_788) rfl (zw_T zwd_789) ⟨by decide +kernel, by decide +kernel, by decide +kernel⟩ rfl (by decide +kernel : decode (zYf 172).2.1 1397 = .ok (.invokevirtual 122, 3)))
theorem zf_zm_172_763 (env : List (Nat × Nat)) : zI9 172 zY_172 zm_172 env (1400, 63, 5, 0, 0) 1402 := zi_iload (by decide +kernel : decode zY_172.2.1 1400 = .ok (.iload 5, 2))
theorem zf_zm_172_764 (env : List (Nat × Nat)) : zI9 172 zY_172 zm_172 env (1402, 20, 766, 0, 0) 1405 := zi_icmp_eq (off := 5) (t := 1407) (by decide +kernel : decode zY_172.2.1 1402 = .ok (.if_icmp .eq 5, 3)) (by decide) (by decide +kernel)
theorem zf_zm_172_765 (env : List (Nat × Nat)) : zI9 172 zY_172 zm_172 env (1405, 99, 0, 0, 0) 1407 := zi_none
theorem zf_zm_172_766 (env : List (Nat × Nat)) : zI9 172 zY_172 zm_172 env (1407, 63, 5, 0, 0) 1409 := zi_iload (by decide +kernel : decode zY_172.2.1 1407 = .ok (.iload 5, 2))
theorem zf_zm_172_767 (env : List (Nat × Nat)) : zI9 172 zY_172 zm_172 env (1409, 6, 769, 0, 0) 1412 := zi_if_ne (off := 15) (t := 1424) (by decide +kernel : decode zY_172.2.1 1409 = .ok (.ifCond .ne 15, 3)) (by decide) (by decide +kernel)
theorem zf_zm_172_768 (env : List (Nat × Nat)) : zI9 172 zY_172 zm_172 env (1412, 99, 0, 0, 0) 1424 := zi_none
theorem zf_zm_172_769 (env : List (Nat × Nat)) : zI9 172 zY_172 zm_172 env (1424, 7, 1145, 0, 0) 1427 := zi_goto (off := 604) (t := 2028) (by decide +kernel : decode zY_172.2.1 1424 = .ok (.goto 604, 3)) (by decide) (by decide +kernel)
theorem zf_zm_172_770 (env : List (Nat × Nat)) : zI9 172 zY_172 zm_172 env (1427, 0, 1, 0, 0) 1428 := zi_aload_n (by decide +kernel : decode zY_172.2.1 1427 = .ok (.aload_n 1, 1)) rfl
theorem zf_zm_172_771 (env : List (Nat × Nat)) : zI9 172 zY_172 zm_172 env (1428, 0, 0, 0, 0) 1429 := zi_aload_n (by decide +kernel : decode zY_172.2.1 1428 = .ok (.aload_n 0, 1)) rfl
theorem zf_zm_172_772 (env : List (Nat × Nat)) : zI9 172 zY_172 zm_172 env (1429, 63, 4, 0, 0) 1431 := zi_iload (by decide +kernel : decode zY_172.2.1 1429 = .ok (.iload 4, 2))
theorem zf_zm_172_773 (env : List (Nat × Nat)) : zI9 172 zY_172 zm_172 env (1431, 2, 1, 0, 0) 1432 := zi_iconst (by decide +kernel : decode zY_172.2.1 1431 = .ok (.iconst 1, 1)) (by decide +kernel)
theorem zf_zm_172_774 (env : List (Nat × Nat)) : zI9 172 zY_172 zm_172 env (1432, 9, 0, 0, 0) 1433 := zi_iadd (by decide +kernel : decode zY_172.2.1 1432 = .ok (.iadd, 1))
theorem zf_zm_172_775 (env : List (Nat × Nat)) : zI9 172 zY_172 zm_172 env (1433, 8, 0, 0, 0) 1434 := zi_iald (zscr_ok (by decide +kernel : decode zY_172.2.1 1433 = .ok (.iaload, 1))) (by decide +kernel : decode zY_172.2.1 1433 = .ok (.iaload, 1))
theorem zf_zm_172_776 (env : List (Nat × Nat)) : zC9 172 zm_172 env (1434, 66, 161, 131, 0) := zi_call (by decide +kernel) (zr_SW (i := 188) zX_ok rfl (zgood_161) (by decide +kernel) (zw_T zwd_781) (zw_T zwd_880) (zw_T zwd_881) ⟨by decide +kernel, by decide +kernel, by decide +kernel⟩ (by decide +kernel : decode (zYf 172).2.1 1434 = .ok (.invokestatic 188, 3)))
theorem zf_zm_172_777 (env : List (Nat × Nat)) : zI9 172 zY_172 zm_172 env (1437, 10, 5, 0, 0) 1439 := zi_istore (by decide +kernel : decode zY_172.2.1 1437 = .ok (.istore 5, 2)) (by decide)
theorem zf_zm_172_778 (env : List (Nat × Nat)) : zI9 172 zY_172 zm_172 env (1439, 0, 2, 0, 0) 1440 := zi_aload_n (by decide +kernel : decode zY_172.2.1 1439 = .ok (.aload_n 2, 1)) rfl
theorem zf_zm_172_779 (env : List (Nat × Nat)) : zI9 172 zY_172 zm_172 env (1440, 0, 0, 0, 0) 1441 := zi_aload_n (by decide +kernel : decode zY_172.2.1 1440 = .ok (.aload_n 0, 1)) rfl
theorem zf_zm_172_780 (env : List (Nat × Nat)) : zI9 172 zY_172 zm_172 env (1441, 63, 4, 0, 0) 1443 := zi_iload (by decide +kernel : decode zY_172.2.1 1441 = .ok (.iload 4, 2))
theorem zf_zm_172_781 (env : List (Nat × Nat)) : zI9 172 zY_172 zm_172 env (1443, 2, 1, 0, 0) 1444 := zi_iconst (by decide +kernel : decode zY_172.2.1 1443 = .ok (.iconst 1, 1)) (by decide +kernel)
theorem zf_zm_172_782 (env : List (Nat × Nat)) : zI9 172 zY_172 zm_172 env (1444, 9, 0, 0, 0) 1445 := zi_iadd (by decide +kernel : decode zY_172.2.1 1444 = .ok (.iadd, 1))
theorem zf_zm_172_783 (env : List (Nat × Nat)) : zI9 172 zY_172 zm_172 env (1445, 8, 0, 0, 0) 1446 := zi_iald (zscr_ok (by decide +kernel : decode zY_172.2.1 1445 = .ok (.iaload, 1))) (by decide +kernel : decode zY_172.2.1 1445 = .ok (.iaload, 1))
theorem zf_zm_172_784 (env : List (Nat × Nat)) : zC9 172 zm_172 env (1446, 66, 66, 130, 3) := zi_call (by decide +kernel) (zr_V (i := 190) (n := 1) (q := ("TransportPairModel", zF_1, 23)) zX_ok rfl (zgood_66) (by decide +kernel) (zw_T zwd_250) (zw_T zwd_882) (zw_T zwd_883) rfl (zw_T zwd_884) ⟨by decide +kernel, by decide +kernel, by decide +kernel⟩ rfl (by decide +kernel : decode (zYf 172).2.1 1446 = .ok (.invokevirtual 190, 3)))
theorem zf_zm_172_785 (env : List (Nat × Nat)) : zI9 172 zY_172 zm_172 env (1449, 0, 2, 0, 0) 1450 := zi_aload_n (by decide +kernel : decode zY_172.2.1 1449 = .ok (.aload_n 2, 1)) rfl
theorem zf_zm_172_786 (env : List (Nat × Nat)) : zC9 172 zm_172 env (1450, 66, 43, 65, 3) := zi_call (by decide +kernel) (zr_V (i := 122) (n := 0) (q := ("TransportPairModel", zF_1, 23)) zX_ok rfl (zgood_43) (by decide +kernel) (zw_T zwd_250) (zw_T zwd_787) (zw_T zwd_788) rfl (zw_T zwd_789) ⟨by decide +kernel, by decide +kernel, by decide +kernel⟩ rfl (by decide +kernel : decode (zYf 172).2.1 1450 = .ok (.invokevirtual 122, 3)))
theorem zf_zm_172_787 (env : List (Nat × Nat)) : zI9 172 zY_172 zm_172 env (1453, 63, 5, 0, 0) 1455 := zi_iload (by decide +kernel : decode zY_172.2.1 1453 = .ok (.iload 5, 2))
theorem zf_zm_172_788 (env : List (Nat × Nat)) : zI9 172 zY_172 zm_172 env (1455, 20, 790, 0, 0) 1458 := zi_icmp_eq (off := 5) (t := 1460) (by decide +kernel : decode zY_172.2.1 1455 = .ok (.if_icmp .eq 5, 3)) (by decide) (by decide +kernel)
theorem zf_zm_172_789 (env : List (Nat × Nat)) : zI9 172 zY_172 zm_172 env (1458, 99, 0, 0, 0) 1460 := zi_none
theorem zf_zm_172_790 (env : List (Nat × Nat)) : zI9 172 zY_172 zm_172 env (1460, 7, 1145, 0, 0) 1463 := zi_goto (off := 568) (t := 2028) (by decide +kernel : decode zY_172.2.1 1460 = .ok (.goto 568, 3)) (by decide) (by decide +kernel)
theorem zf_zm_172_791 (env : List (Nat × Nat)) : zI9 172 zY_172 zm_172 env (1463, 0, 1, 0, 0) 1464 := zi_aload_n (by decide +kernel : decode zY_172.2.1 1463 = .ok (.aload_n 1, 1)) rfl
theorem zf_zm_172_792 (env : List (Nat × Nat)) : zI9 172 zY_172 zm_172 env (1464, 0, 0, 0, 0) 1465 := zi_aload_n (by decide +kernel : decode zY_172.2.1 1464 = .ok (.aload_n 0, 1)) rfl
theorem zf_zm_172_793 (env : List (Nat × Nat)) : zI9 172 zY_172 zm_172 env (1465, 63, 4, 0, 0) 1467 := zi_iload (by decide +kernel : decode zY_172.2.1 1465 = .ok (.iload 4, 2))
theorem zf_zm_172_794 (env : List (Nat × Nat)) : zI9 172 zY_172 zm_172 env (1467, 2, 1, 0, 0) 1468 := zi_iconst (by decide +kernel : decode zY_172.2.1 1467 = .ok (.iconst 1, 1)) (by decide +kernel)
theorem zf_zm_172_795 (env : List (Nat × Nat)) : zI9 172 zY_172 zm_172 env (1468, 9, 0, 0, 0) 1469 := zi_iadd (by decide +kernel : decode zY_172.2.1 1468 = .ok (.iadd, 1))
theorem zf_zm_172_796 (env : List (Nat × Nat)) : zI9 172 zY_172 zm_172 env (1469, 8, 0, 0, 0) 1470 := zi_iald (zscr_ok (by decide +kernel : decode zY_172.2.1 1469 = .ok (.iaload, 1))) (by decide +kernel : decode zY_172.2.1 1469 = .ok (.iaload, 1))
theorem zf_zm_172_797 (env : List (Nat × Nat)) : zI9 172 zY_172 zm_172 env (1470, 0, 3, 0, 0) 1471 := zi_aload_n (by decide +kernel : decode zY_172.2.1 1470 = .ok (.aload_n 3, 1)) rfl
theorem zf_zm_172_798 (env : List (Nat × Nat)) : zC9 172 zm_172 env (1471, 66, 162, 196, 0) := zi_call (by decide +kernel) (zr_SW (i := 191) zX_ok rfl (zgood_162) (by decide +kernel) (zw_T zwd_781) (zw_T zwd_885) (zw_T zwd_886) ⟨by decide +kernel, by decide +kernel, by decide +kernel⟩ (by decide +kernel : decode (zYf 172).2.1 1471 = .ok (.invokestatic 191, 3)))
theorem zf_zm_172_799 (env : List (Nat × Nat)) : zI9 172 zY_172 zm_172 env (1474, 10, 5, 0, 0) 1476 := zi_istore (by decide +kernel : decode zY_172.2.1 1474 = .ok (.istore 5, 2)) (by decide)
theorem zf_zm_172_800 (env : List (Nat × Nat)) : zI9 172 zY_172 zm_172 env (1476, 0, 2, 0, 0) 1477 := zi_aload_n (by decide +kernel : decode zY_172.2.1 1476 = .ok (.aload_n 2, 1)) rfl
theorem zf_zm_172_801 (env : List (Nat × Nat)) : zI9 172 zY_172 zm_172 env (1477, 0, 0, 0, 0) 1478 := zi_aload_n (by decide +kernel : decode zY_172.2.1 1477 = .ok (.aload_n 0, 1)) rfl
theorem zf_zm_172_802 (env : List (Nat × Nat)) : zI9 172 zY_172 zm_172 env (1478, 63, 4, 0, 0) 1480 := zi_iload (by decide +kernel : decode zY_172.2.1 1478 = .ok (.iload 4, 2))
theorem zf_zm_172_803 (env : List (Nat × Nat)) : zI9 172 zY_172 zm_172 env (1480, 2, 1, 0, 0) 1481 := zi_iconst (by decide +kernel : decode zY_172.2.1 1480 = .ok (.iconst 1, 1)) (by decide +kernel)
theorem zf_zm_172_804 (env : List (Nat × Nat)) : zI9 172 zY_172 zm_172 env (1481, 9, 0, 0, 0) 1482 := zi_iadd (by decide +kernel : decode zY_172.2.1 1481 = .ok (.iadd, 1))
theorem zf_zm_172_805 (env : List (Nat × Nat)) : zI9 172 zY_172 zm_172 env (1482, 8, 0, 0, 0) 1483 := zi_iald (zscr_ok (by decide +kernel : decode zY_172.2.1 1482 = .ok (.iaload, 1))) (by decide +kernel : decode zY_172.2.1 1482 = .ok (.iaload, 1))
theorem zf_zm_172_806 (env : List (Nat × Nat)) : zC9 172 zm_172 env (1483, 66, 171, 131, 3) := zi_call (by decide +kernel) (zr_V (i := 193) (n := 1) (q := ("TransportPairModel", zF_1, 23)) zX_ok rfl (zgood_171) (by decide +kernel) (zw_T zwd_250) (zw_T zwd_887) (zw_T zwd_888) rfl (zw_T zwd_889) ⟨by decide +kernel, by decide +kernel, by decide +kernel⟩ rfl (by decide +kernel : decode (zYf 172).2.1 1483 = .ok (.invokevirtual 193, 3)))
theorem zf_zm_172_807 (env : List (Nat × Nat)) : zI9 172 zY_172 zm_172 env (1486, 10, 6, 0, 0) 1488 := zi_istore (by decide +kernel : decode zY_172.2.1 1486 = .ok (.istore 6, 2)) (by decide)
theorem zf_zm_172_808 (env : List (Nat × Nat)) : zI9 172 zY_172 zm_172 env (1488, 0, 2, 0, 0) 1489 := zi_aload_n (by decide +kernel : decode zY_172.2.1 1488 = .ok (.aload_n 2, 1)) rfl
theorem zf_zm_172_809 (env : List (Nat × Nat)) : zC9 172 zm_172 env (1489, 66, 43, 65, 3) := zi_call (by decide +kernel) (zr_V (i := 122) (n := 0) (q := ("TransportPairModel", zF_1, 23)) zX_ok rfl (zgood_43) (by decide +kernel) (zw_T zwd_250) (zw_T zwd_787) (zw_T zwd_788) rfl (zw_T zwd_789) ⟨by decide +kernel, by decide +kernel, by decide +kernel⟩ rfl (by decide +kernel : decode (zYf 172).2.1 1489 = .ok (.invokevirtual 122, 3)))
theorem zf_zm_172_810 (env : List (Nat × Nat)) : zI9 172 zY_172 zm_172 env (1492, 63, 5, 0, 0) 1494 := zi_iload (by decide +kernel : decode zY_172.2.1 1492 = .ok (.iload 5, 2))
theorem zf_zm_172_811 (env : List (Nat × Nat)) : zI9 172 zY_172 zm_172 env (1494, 20, 813, 0, 0) 1497 := zi_icmp_eq (off := 5) (t := 1499) (by decide +kernel : decode zY_172.2.1 1494 = .ok (.if_icmp .eq 5, 3)) (by decide) (by decide +kernel)
theorem zf_zm_172_812 (env : List (Nat × Nat)) : zI9 172 zY_172 zm_172 env (1497, 99, 0, 0, 0) 1499 := zi_none
theorem zf_zm_172_813 (env : List (Nat × Nat)) : zI9 172 zY_172 zm_172 env (1499, 63, 5, 0, 0) 1501 := zi_iload (by decide +kernel : decode zY_172.2.1 1499 = .ok (.iload 5, 2))
theorem zf_zm_172_814 (env : List (Nat × Nat)) : zI9 172 zY_172 zm_172 env (1501, 6, 823, 0, 0) 1504 := zi_if_ne (off := 15) (t := 1516) (by decide +kernel : decode zY_172.2.1 1501 = .ok (.ifCond .ne 15, 3)) (by decide) (by decide +kernel)
theorem zf_zm_172_815 (env : List (Nat × Nat)) : zI9 172 zY_172 zm_172 env (1504, 0, 3, 0, 0) 1505 := zi_aload_n (by decide +kernel : decode zY_172.2.1 1504 = .ok (.aload_n 3, 1)) rfl
theorem zf_zm_172_816 (env : List (Nat × Nat)) : zI9 172 zY_172 zm_172 env (1505, 2, 0, 0, 0) 1506 := zi_iconst (by decide +kernel : decode zY_172.2.1 1505 = .ok (.iconst 0, 1)) (by decide +kernel)
theorem zf_zm_172_817 (env : List (Nat × Nat)) : zI9 172 zY_172 zm_172 env (1506, 26, 0, 0, 0) 1507 := zi_lald (by decide +kernel : decode zY_172.2.1 1506 = .ok (.laload, 1))
theorem zf_zm_172_818 (env : List (Nat × Nat)) : zI9 172 zY_172 zm_172 env (1507, 63, 6, 0, 0) 1509 := zi_iload (by decide +kernel : decode zY_172.2.1 1507 = .ok (.iload 6, 2))
theorem zf_zm_172_819 (env : List (Nat × Nat)) : zI9 172 zY_172 zm_172 env (1509, 16, 0, 0, 0) 1510 := zi_i2l (by decide +kernel : decode zY_172.2.1 1509 = .ok (.i2l, 1))
theorem zf_zm_172_820 (env : List (Nat × Nat)) : zI9 172 zY_172 zm_172 env (1510, 34, 0, 0, 0) 1511 := zi_lcmp (by decide +kernel : decode zY_172.2.1 1510 = .ok (.lcmp, 1))
theorem zf_zm_172_821 (env : List (Nat × Nat)) : zI9 172 zY_172 zm_172 env (1511, 5, 823, 0, 0) 1514 := zi_if_eq (off := 5) (t := 1516) (by decide +kernel : decode zY_172.2.1 1511 = .ok (.ifCond .eq 5, 3)) (by decide) (by decide +kernel)
theorem zf_zm_172_822 (env : List (Nat × Nat)) : zI9 172 zY_172 zm_172 env (1514, 99, 0, 0, 0) 1516 := zi_none
theorem zf_zm_172_823 (env : List (Nat × Nat)) : zI9 172 zY_172 zm_172 env (1516, 7, 1145, 0, 0) 1519 := zi_goto (off := 512) (t := 2028) (by decide +kernel : decode zY_172.2.1 1516 = .ok (.goto 512, 3)) (by decide) (by decide +kernel)
theorem zf_zm_172_824 (env : List (Nat × Nat)) : zI9 172 zY_172 zm_172 env (1519, 0, 1, 0, 0) 1520 := zi_aload_n (by decide +kernel : decode zY_172.2.1 1519 = .ok (.aload_n 1, 1)) rfl
theorem zf_zm_172_825 (env : List (Nat × Nat)) : zI9 172 zY_172 zm_172 env (1520, 0, 0, 0, 0) 1521 := zi_aload_n (by decide +kernel : decode zY_172.2.1 1520 = .ok (.aload_n 0, 1)) rfl
theorem zf_zm_172_826 (env : List (Nat × Nat)) : zI9 172 zY_172 zm_172 env (1521, 63, 4, 0, 0) 1523 := zi_iload (by decide +kernel : decode zY_172.2.1 1521 = .ok (.iload 4, 2))
theorem zf_zm_172_827 (env : List (Nat × Nat)) : zI9 172 zY_172 zm_172 env (1523, 2, 1, 0, 0) 1524 := zi_iconst (by decide +kernel : decode zY_172.2.1 1523 = .ok (.iconst 1, 1)) (by decide +kernel)
theorem zf_zm_172_828 (env : List (Nat × Nat)) : zI9 172 zY_172 zm_172 env (1524, 9, 0, 0, 0) 1525 := zi_iadd (by decide +kernel : decode zY_172.2.1 1524 = .ok (.iadd, 1))
theorem zf_zm_172_829 (env : List (Nat × Nat)) : zI9 172 zY_172 zm_172 env (1525, 8, 0, 0, 0) 1526 := zi_iald (zscr_ok (by decide +kernel : decode zY_172.2.1 1525 = .ok (.iaload, 1))) (by decide +kernel : decode zY_172.2.1 1525 = .ok (.iaload, 1))
theorem zf_zm_172_830 (env : List (Nat × Nat)) : zI9 172 zY_172 zm_172 env (1526, 0, 0, 0, 0) 1527 := zi_aload_n (by decide +kernel : decode zY_172.2.1 1526 = .ok (.aload_n 0, 1)) rfl
theorem zf_zm_172_831 (env : List (Nat × Nat)) : zI9 172 zY_172 zm_172 env (1527, 63, 4, 0, 0) 1529 := zi_iload (by decide +kernel : decode zY_172.2.1 1527 = .ok (.iload 4, 2))
theorem zf_zm_172_832 (env : List (Nat × Nat)) : zI9 172 zY_172 zm_172 env (1529, 2, 2, 0, 0) 1530 := zi_iconst (by decide +kernel : decode zY_172.2.1 1529 = .ok (.iconst 2, 1)) (by decide +kernel)
theorem zf_zm_172_833 (env : List (Nat × Nat)) : zI9 172 zY_172 zm_172 env (1530, 9, 0, 0, 0) 1531 := zi_iadd (by decide +kernel : decode zY_172.2.1 1530 = .ok (.iadd, 1))
theorem zf_zm_172_834 (env : List (Nat × Nat)) : zI9 172 zY_172 zm_172 env (1531, 8, 0, 0, 0) 1532 := zi_iald (zscr_ok (by decide +kernel : decode zY_172.2.1 1531 = .ok (.iaload, 1))) (by decide +kernel : decode zY_172.2.1 1531 = .ok (.iaload, 1))
theorem zf_zm_172_835 (env : List (Nat × Nat)) : zI9 172 zY_172 zm_172 env (1532, 0, 3, 0, 0) 1533 := zi_aload_n (by decide +kernel : decode zY_172.2.1 1532 = .ok (.aload_n 3, 1)) rfl
theorem zf_zm_172_836 (env : List (Nat × Nat)) : zC9 172 zm_172 env (1533, 66, 163, 261, 0) := zi_call (by decide +kernel) (zr_SW (i := 194) zX_ok rfl (zgood_163) (by decide +kernel) (zw_T zwd_781) (zw_T zwd_890) (zw_T zwd_891) ⟨by decide +kernel, by decide +kernel, by decide +kernel⟩ (by decide +kernel : decode (zYf 172).2.1 1533 = .ok (.invokestatic 194, 3)))
theorem zf_zm_172_837 (env : List (Nat × Nat)) : zI9 172 zY_172 zm_172 env (1536, 10, 5, 0, 0) 1538 := zi_istore (by decide +kernel : decode zY_172.2.1 1536 = .ok (.istore 5, 2)) (by decide)
theorem zf_zm_172_838 (env : List (Nat × Nat)) : zI9 172 zY_172 zm_172 env (1538, 0, 2, 0, 0) 1539 := zi_aload_n (by decide +kernel : decode zY_172.2.1 1538 = .ok (.aload_n 2, 1)) rfl
theorem zf_zm_172_839 (env : List (Nat × Nat)) : zI9 172 zY_172 zm_172 env (1539, 0, 0, 0, 0) 1540 := zi_aload_n (by decide +kernel : decode zY_172.2.1 1539 = .ok (.aload_n 0, 1)) rfl
theorem zf_zm_172_840 (env : List (Nat × Nat)) : zI9 172 zY_172 zm_172 env (1540, 63, 4, 0, 0) 1542 := zi_iload (by decide +kernel : decode zY_172.2.1 1540 = .ok (.iload 4, 2))
theorem zf_zm_172_841 (env : List (Nat × Nat)) : zI9 172 zY_172 zm_172 env (1542, 2, 1, 0, 0) 1543 := zi_iconst (by decide +kernel : decode zY_172.2.1 1542 = .ok (.iconst 1, 1)) (by decide +kernel)
theorem zf_zm_172_842 (env : List (Nat × Nat)) : zI9 172 zY_172 zm_172 env (1543, 9, 0, 0, 0) 1544 := zi_iadd (by decide +kernel : decode zY_172.2.1 1543 = .ok (.iadd, 1))
theorem zf_zm_172_843 (env : List (Nat × Nat)) : zI9 172 zY_172 zm_172 env (1544, 8, 0, 0, 0) 1545 := zi_iald (zscr_ok (by decide +kernel : decode zY_172.2.1 1544 = .ok (.iaload, 1))) (by decide +kernel : decode zY_172.2.1 1544 = .ok (.iaload, 1))
theorem zf_zm_172_844 (env : List (Nat × Nat)) : zI9 172 zY_172 zm_172 env (1545, 0, 0, 0, 0) 1546 := zi_aload_n (by decide +kernel : decode zY_172.2.1 1545 = .ok (.aload_n 0, 1)) rfl
theorem zf_zm_172_845 (env : List (Nat × Nat)) : zI9 172 zY_172 zm_172 env (1546, 63, 4, 0, 0) 1548 := zi_iload (by decide +kernel : decode zY_172.2.1 1546 = .ok (.iload 4, 2))
theorem zf_zm_172_846 (env : List (Nat × Nat)) : zI9 172 zY_172 zm_172 env (1548, 2, 2, 0, 0) 1549 := zi_iconst (by decide +kernel : decode zY_172.2.1 1548 = .ok (.iconst 2, 1)) (by decide +kernel)
theorem zf_zm_172_847 (env : List (Nat × Nat)) : zI9 172 zY_172 zm_172 env (1549, 9, 0, 0, 0) 1550 := zi_iadd (by decide +kernel : decode zY_172.2.1 1549 = .ok (.iadd, 1))
theorem zf_zm_172_848 (env : List (Nat × Nat)) : zI9 172 zY_172 zm_172 env (1550, 8, 0, 0, 0) 1551 := zi_iald (zscr_ok (by decide +kernel : decode zY_172.2.1 1550 = .ok (.iaload, 1))) (by decide +kernel : decode zY_172.2.1 1550 = .ok (.iaload, 1))
theorem zf_zm_172_849 (env : List (Nat × Nat)) : zC9 172 zm_172 env (1551, 66, 68, 195, 3) := zi_call (by decide +kernel) (zr_V (i := 196) (n := 2) (q := ("TransportPairModel", zF_1, 23)) zX_ok rfl (zgood_68) (by decide +kernel) (zw_T zwd_250) (zw_T zwd_892) (zw_T zwd_893) rfl (zw_T zwd_894) ⟨by decide +kernel, by decide +kernel, by decide +kernel⟩ rfl (by decide +kernel : decode (zYf 172).2.1 1551 = .ok (.invokevirtual 196, 3)))
theorem zf_zm_172_850 (env : List (Nat × Nat)) : zI9 172 zY_172 zm_172 env (1554, 10, 6, 0, 0) 1556 := zi_istore (by decide +kernel : decode zY_172.2.1 1554 = .ok (.istore 6, 2)) (by decide)
theorem zf_zm_172_851 (env : List (Nat × Nat)) : zI9 172 zY_172 zm_172 env (1556, 0, 2, 0, 0) 1557 := zi_aload_n (by decide +kernel : decode zY_172.2.1 1556 = .ok (.aload_n 2, 1)) rfl
theorem zf_zm_172_852 (env : List (Nat × Nat)) : zC9 172 zm_172 env (1557, 66, 43, 65, 3) := zi_call (by decide +kernel) (zr_V (i := 122) (n := 0) (q := ("TransportPairModel", zF_1, 23)) zX_ok rfl (zgood_43) (by decide +kernel) (zw_T zwd_250) (zw_T zwd_787) (zw_T zwd_788) rfl (zw_T zwd_789) ⟨by decide +kernel, by decide +kernel, by decide +kernel⟩ rfl (by decide +kernel : decode (zYf 172).2.1 1557 = .ok (.invokevirtual 122, 3)))
theorem zf_zm_172_853 (env : List (Nat × Nat)) : zI9 172 zY_172 zm_172 env (1560, 63, 5, 0, 0) 1562 := zi_iload (by decide +kernel : decode zY_172.2.1 1560 = .ok (.iload 5, 2))
theorem zf_zm_172_854 (env : List (Nat × Nat)) : zI9 172 zY_172 zm_172 env (1562, 20, 856, 0, 0) 1565 := zi_icmp_eq (off := 5) (t := 1567) (by decide +kernel : decode zY_172.2.1 1562 = .ok (.if_icmp .eq 5, 3)) (by decide) (by decide +kernel)
theorem zf_zm_172_855 (env : List (Nat × Nat)) : zI9 172 zY_172 zm_172 env (1565, 99, 0, 0, 0) 1567 := zi_none
theorem zf_zm_172_856 (env : List (Nat × Nat)) : zI9 172 zY_172 zm_172 env (1567, 63, 5, 0, 0) 1569 := zi_iload (by decide +kernel : decode zY_172.2.1 1567 = .ok (.iload 5, 2))
theorem zf_zm_172_857 (env : List (Nat × Nat)) : zI9 172 zY_172 zm_172 env (1569, 6, 866, 0, 0) 1572 := zi_if_ne (off := 15) (t := 1584) (by decide +kernel : decode zY_172.2.1 1569 = .ok (.ifCond .ne 15, 3)) (by decide) (by decide +kernel)
theorem zf_zm_172_858 (env : List (Nat × Nat)) : zI9 172 zY_172 zm_172 env (1572, 0, 3, 0, 0) 1573 := zi_aload_n (by decide +kernel : decode zY_172.2.1 1572 = .ok (.aload_n 3, 1)) rfl
theorem zf_zm_172_859 (env : List (Nat × Nat)) : zI9 172 zY_172 zm_172 env (1573, 2, 0, 0, 0) 1574 := zi_iconst (by decide +kernel : decode zY_172.2.1 1573 = .ok (.iconst 0, 1)) (by decide +kernel)
theorem zf_zm_172_860 (env : List (Nat × Nat)) : zI9 172 zY_172 zm_172 env (1574, 26, 0, 0, 0) 1575 := zi_lald (by decide +kernel : decode zY_172.2.1 1574 = .ok (.laload, 1))
theorem zf_zm_172_861 (env : List (Nat × Nat)) : zI9 172 zY_172 zm_172 env (1575, 63, 6, 0, 0) 1577 := zi_iload (by decide +kernel : decode zY_172.2.1 1575 = .ok (.iload 6, 2))
theorem zf_zm_172_862 (env : List (Nat × Nat)) : zI9 172 zY_172 zm_172 env (1577, 16, 0, 0, 0) 1578 := zi_i2l (by decide +kernel : decode zY_172.2.1 1577 = .ok (.i2l, 1))
theorem zf_zm_172_863 (env : List (Nat × Nat)) : zI9 172 zY_172 zm_172 env (1578, 34, 0, 0, 0) 1579 := zi_lcmp (by decide +kernel : decode zY_172.2.1 1578 = .ok (.lcmp, 1))
theorem zf_zm_172_864 (env : List (Nat × Nat)) : zI9 172 zY_172 zm_172 env (1579, 5, 866, 0, 0) 1582 := zi_if_eq (off := 5) (t := 1584) (by decide +kernel : decode zY_172.2.1 1579 = .ok (.ifCond .eq 5, 3)) (by decide) (by decide +kernel)
theorem zf_zm_172_865 (env : List (Nat × Nat)) : zI9 172 zY_172 zm_172 env (1582, 99, 0, 0, 0) 1584 := zi_none
theorem zf_zm_172_866 (env : List (Nat × Nat)) : zI9 172 zY_172 zm_172 env (1584, 7, 1145, 0, 0) 1587 := zi_goto (off := 444) (t := 2028) (by decide +kernel : decode zY_172.2.1 1584 = .ok (.goto 444, 3)) (by decide) (by decide +kernel)
theorem zf_zm_172_867 (env : List (Nat × Nat)) : zI9 172 zY_172 zm_172 env (1587, 0, 1, 0, 0) 1588 := zi_aload_n (by decide +kernel : decode zY_172.2.1 1587 = .ok (.aload_n 1, 1)) rfl
theorem zf_zm_172_868 (env : List (Nat × Nat)) : zI9 172 zY_172 zm_172 env (1588, 0, 0, 0, 0) 1589 := zi_aload_n (by decide +kernel : decode zY_172.2.1 1588 = .ok (.aload_n 0, 1)) rfl
theorem zf_zm_172_869 (env : List (Nat × Nat)) : zI9 172 zY_172 zm_172 env (1589, 63, 4, 0, 0) 1591 := zi_iload (by decide +kernel : decode zY_172.2.1 1589 = .ok (.iload 4, 2))
theorem zf_zm_172_870 (env : List (Nat × Nat)) : zI9 172 zY_172 zm_172 env (1591, 2, 1, 0, 0) 1592 := zi_iconst (by decide +kernel : decode zY_172.2.1 1591 = .ok (.iconst 1, 1)) (by decide +kernel)
theorem zf_zm_172_871 (env : List (Nat × Nat)) : zI9 172 zY_172 zm_172 env (1592, 9, 0, 0, 0) 1593 := zi_iadd (by decide +kernel : decode zY_172.2.1 1592 = .ok (.iadd, 1))
theorem zf_zm_172_872 (env : List (Nat × Nat)) : zI9 172 zY_172 zm_172 env (1593, 8, 0, 0, 0) 1594 := zi_iald (zscr_ok (by decide +kernel : decode zY_172.2.1 1593 = .ok (.iaload, 1))) (by decide +kernel : decode zY_172.2.1 1593 = .ok (.iaload, 1))
theorem zf_zm_172_873 (env : List (Nat × Nat)) : zI9 172 zY_172 zm_172 env (1594, 0, 0, 0, 0) 1595 := zi_aload_n (by decide +kernel : decode zY_172.2.1 1594 = .ok (.aload_n 0, 1)) rfl
theorem zf_zm_172_874 (env : List (Nat × Nat)) : zI9 172 zY_172 zm_172 env (1595, 63, 4, 0, 0) 1597 := zi_iload (by decide +kernel : decode zY_172.2.1 1595 = .ok (.iload 4, 2))
theorem zf_zm_172_875 (env : List (Nat × Nat)) : zI9 172 zY_172 zm_172 env (1597, 2, 2, 0, 0) 1598 := zi_iconst (by decide +kernel : decode zY_172.2.1 1597 = .ok (.iconst 2, 1)) (by decide +kernel)
theorem zf_zm_172_876 (env : List (Nat × Nat)) : zI9 172 zY_172 zm_172 env (1598, 9, 0, 0, 0) 1599 := zi_iadd (by decide +kernel : decode zY_172.2.1 1598 = .ok (.iadd, 1))
theorem zf_zm_172_877 (env : List (Nat × Nat)) : zI9 172 zY_172 zm_172 env (1599, 8, 0, 0, 0) 1600 := zi_iald (zscr_ok (by decide +kernel : decode zY_172.2.1 1599 = .ok (.iaload, 1))) (by decide +kernel : decode zY_172.2.1 1599 = .ok (.iaload, 1))
theorem zf_zm_172_878 (env : List (Nat × Nat)) : zI9 172 zY_172 zm_172 env (1600, 0, 0, 0, 0) 1601 := zi_aload_n (by decide +kernel : decode zY_172.2.1 1600 = .ok (.aload_n 0, 1)) rfl
theorem zf_zm_172_879 (env : List (Nat × Nat)) : zI9 172 zY_172 zm_172 env (1601, 63, 4, 0, 0) 1603 := zi_iload (by decide +kernel : decode zY_172.2.1 1601 = .ok (.iload 4, 2))
theorem zf_zm_172_880 (env : List (Nat × Nat)) : zI9 172 zY_172 zm_172 env (1603, 2, 3, 0, 0) 1604 := zi_iconst (by decide +kernel : decode zY_172.2.1 1603 = .ok (.iconst 3, 1)) (by decide +kernel)
theorem zf_zm_172_881 (env : List (Nat × Nat)) : zI9 172 zY_172 zm_172 env (1604, 9, 0, 0, 0) 1605 := zi_iadd (by decide +kernel : decode zY_172.2.1 1604 = .ok (.iadd, 1))
theorem zf_zm_172_882 (env : List (Nat × Nat)) : zI9 172 zY_172 zm_172 env (1605, 8, 0, 0, 0) 1606 := zi_iald (zscr_ok (by decide +kernel : decode zY_172.2.1 1605 = .ok (.iaload, 1))) (by decide +kernel : decode zY_172.2.1 1605 = .ok (.iaload, 1))
theorem zf_zm_172_883 (env : List (Nat × Nat)) : zI9 172 zY_172 zm_172 env (1606, 0, 3, 0, 0) 1607 := zi_aload_n (by decide +kernel : decode zY_172.2.1 1606 = .ok (.aload_n 3, 1)) rfl
theorem zf_zm_172_884 (env : List (Nat × Nat)) : zC9 172 zm_172 env (1607, 66, 164, 326, 0) := zi_call (by decide +kernel) (zr_SW (i := 197) zX_ok rfl (zgood_164) (by decide +kernel) (zw_T zwd_781) (zw_T zwd_895) (zw_T zwd_896) ⟨by decide +kernel, by decide +kernel, by decide +kernel⟩ (by decide +kernel : decode (zYf 172).2.1 1607 = .ok (.invokestatic 197, 3)))
theorem zf_zm_172_885 (env : List (Nat × Nat)) : zI9 172 zY_172 zm_172 env (1610, 10, 5, 0, 0) 1612 := zi_istore (by decide +kernel : decode zY_172.2.1 1610 = .ok (.istore 5, 2)) (by decide)
theorem zf_zm_172_886 (env : List (Nat × Nat)) : zI9 172 zY_172 zm_172 env (1612, 0, 2, 0, 0) 1613 := zi_aload_n (by decide +kernel : decode zY_172.2.1 1612 = .ok (.aload_n 2, 1)) rfl
theorem zf_zm_172_887 (env : List (Nat × Nat)) : zI9 172 zY_172 zm_172 env (1613, 0, 0, 0, 0) 1614 := zi_aload_n (by decide +kernel : decode zY_172.2.1 1613 = .ok (.aload_n 0, 1)) rfl
theorem zf_zm_172_888 (env : List (Nat × Nat)) : zI9 172 zY_172 zm_172 env (1614, 63, 4, 0, 0) 1616 := zi_iload (by decide +kernel : decode zY_172.2.1 1614 = .ok (.iload 4, 2))
theorem zf_zm_172_889 (env : List (Nat × Nat)) : zI9 172 zY_172 zm_172 env (1616, 2, 1, 0, 0) 1617 := zi_iconst (by decide +kernel : decode zY_172.2.1 1616 = .ok (.iconst 1, 1)) (by decide +kernel)
theorem zf_zm_172_890 (env : List (Nat × Nat)) : zI9 172 zY_172 zm_172 env (1617, 9, 0, 0, 0) 1618 := zi_iadd (by decide +kernel : decode zY_172.2.1 1617 = .ok (.iadd, 1))
theorem zf_zm_172_891 (env : List (Nat × Nat)) : zI9 172 zY_172 zm_172 env (1618, 8, 0, 0, 0) 1619 := zi_iald (zscr_ok (by decide +kernel : decode zY_172.2.1 1618 = .ok (.iaload, 1))) (by decide +kernel : decode zY_172.2.1 1618 = .ok (.iaload, 1))
theorem zf_zm_172_892 (env : List (Nat × Nat)) : zI9 172 zY_172 zm_172 env (1619, 0, 0, 0, 0) 1620 := zi_aload_n (by decide +kernel : decode zY_172.2.1 1619 = .ok (.aload_n 0, 1)) rfl
theorem zf_zm_172_893 (env : List (Nat × Nat)) : zI9 172 zY_172 zm_172 env (1620, 63, 4, 0, 0) 1622 := zi_iload (by decide +kernel : decode zY_172.2.1 1620 = .ok (.iload 4, 2))
theorem zf_zm_172_894 (env : List (Nat × Nat)) : zI9 172 zY_172 zm_172 env (1622, 2, 2, 0, 0) 1623 := zi_iconst (by decide +kernel : decode zY_172.2.1 1622 = .ok (.iconst 2, 1)) (by decide +kernel)
theorem zf_zm_172_895 (env : List (Nat × Nat)) : zI9 172 zY_172 zm_172 env (1623, 9, 0, 0, 0) 1624 := zi_iadd (by decide +kernel : decode zY_172.2.1 1623 = .ok (.iadd, 1))
theorem zf_zm_172_896 (env : List (Nat × Nat)) : zI9 172 zY_172 zm_172 env (1624, 8, 0, 0, 0) 1625 := zi_iald (zscr_ok (by decide +kernel : decode zY_172.2.1 1624 = .ok (.iaload, 1))) (by decide +kernel : decode zY_172.2.1 1624 = .ok (.iaload, 1))
theorem zf_zm_172_897 (env : List (Nat × Nat)) : zI9 172 zY_172 zm_172 env (1625, 0, 0, 0, 0) 1626 := zi_aload_n (by decide +kernel : decode zY_172.2.1 1625 = .ok (.aload_n 0, 1)) rfl
theorem zf_zm_172_898 (env : List (Nat × Nat)) : zI9 172 zY_172 zm_172 env (1626, 63, 4, 0, 0) 1628 := zi_iload (by decide +kernel : decode zY_172.2.1 1626 = .ok (.iload 4, 2))
theorem zf_zm_172_899 (env : List (Nat × Nat)) : zI9 172 zY_172 zm_172 env (1628, 2, 3, 0, 0) 1629 := zi_iconst (by decide +kernel : decode zY_172.2.1 1628 = .ok (.iconst 3, 1)) (by decide +kernel)
theorem zf_zm_172_900 (env : List (Nat × Nat)) : zI9 172 zY_172 zm_172 env (1629, 9, 0, 0, 0) 1630 := zi_iadd (by decide +kernel : decode zY_172.2.1 1629 = .ok (.iadd, 1))
theorem zf_zm_172_901 (env : List (Nat × Nat)) : zI9 172 zY_172 zm_172 env (1630, 8, 0, 0, 0) 1631 := zi_iald (zscr_ok (by decide +kernel : decode zY_172.2.1 1630 = .ok (.iaload, 1))) (by decide +kernel : decode zY_172.2.1 1630 = .ok (.iaload, 1))
theorem zf_zm_172_902 (env : List (Nat × Nat)) : zC9 172 zm_172 env (1631, 66, 69, 261, 3) := zi_call (by decide +kernel) (zr_V (i := 199) (n := 3) (q := ("TransportPairModel", zF_1, 23)) zX_ok rfl (zgood_69) (by decide +kernel) (zw_T zwd_250) (zw_T zwd_897) (zw_T zwd_898) rfl (zw_T zwd_899) ⟨by decide +kernel, by decide +kernel, by decide +kernel⟩ rfl (by decide +kernel : decode (zYf 172).2.1 1631 = .ok (.invokevirtual 199, 3)))
theorem zf_zm_172_903 (env : List (Nat × Nat)) : zI9 172 zY_172 zm_172 env (1634, 10, 6, 0, 0) 1636 := zi_istore (by decide +kernel : decode zY_172.2.1 1634 = .ok (.istore 6, 2)) (by decide)
theorem zf_zm_172_904 (env : List (Nat × Nat)) : zI9 172 zY_172 zm_172 env (1636, 0, 2, 0, 0) 1637 := zi_aload_n (by decide +kernel : decode zY_172.2.1 1636 = .ok (.aload_n 2, 1)) rfl
theorem zf_zm_172_905 (env : List (Nat × Nat)) : zC9 172 zm_172 env (1637, 66, 43, 65, 3) := zi_call (by decide +kernel) (zr_V (i := 122) (n := 0) (q := ("TransportPairModel", zF_1, 23)) zX_ok rfl (zgood_43) (by decide +kernel) (zw_T zwd_250) (zw_T zwd_787) (zw_T zwd_788) rfl (zw_T zwd_789) ⟨by decide +kernel, by decide +kernel, by decide +kernel⟩ rfl (by decide +kernel : decode (zYf 172).2.1 1637 = .ok (.invokevirtual 122, 3)))
theorem zf_zm_172_906 (env : List (Nat × Nat)) : zI9 172 zY_172 zm_172 env (1640, 63, 5, 0, 0) 1642 := zi_iload (by decide +kernel : decode zY_172.2.1 1640 = .ok (.iload 5, 2))
theorem zf_zm_172_907 (env : List (Nat × Nat)) : zI9 172 zY_172 zm_172 env (1642, 20, 909, 0, 0) 1645 := zi_icmp_eq (off := 5) (t := 1647) (by decide +kernel : decode zY_172.2.1 1642 = .ok (.if_icmp .eq 5, 3)) (by decide) (by decide +kernel)
theorem zf_zm_172_908 (env : List (Nat × Nat)) : zI9 172 zY_172 zm_172 env (1645, 99, 0, 0, 0) 1647 := zi_none
theorem zf_zm_172_909 (env : List (Nat × Nat)) : zI9 172 zY_172 zm_172 env (1647, 63, 5, 0, 0) 1649 := zi_iload (by decide +kernel : decode zY_172.2.1 1647 = .ok (.iload 5, 2))
theorem zf_zm_172_910 (env : List (Nat × Nat)) : zI9 172 zY_172 zm_172 env (1649, 6, 912, 0, 0) 1652 := zi_if_ne (off := 15) (t := 1664) (by decide +kernel : decode zY_172.2.1 1649 = .ok (.ifCond .ne 15, 3)) (by decide) (by decide +kernel)
theorem zf_zm_172_911 (env : List (Nat × Nat)) : zI9 172 zY_172 zm_172 env (1652, 99, 0, 0, 0) 1664 := zi_none
theorem zf_zm_172_912 (env : List (Nat × Nat)) : zI9 172 zY_172 zm_172 env (1664, 7, 1145, 0, 0) 1667 := zi_goto (off := 364) (t := 2028) (by decide +kernel : decode zY_172.2.1 1664 = .ok (.goto 364, 3)) (by decide) (by decide +kernel)
theorem zf_zm_172_913 (env : List (Nat × Nat)) : zI9 172 zY_172 zm_172 env (1667, 0, 1, 0, 0) 1668 := zi_aload_n (by decide +kernel : decode zY_172.2.1 1667 = .ok (.aload_n 1, 1)) rfl
theorem zf_zm_172_914 (env : List (Nat × Nat)) : zI9 172 zY_172 zm_172 env (1668, 0, 0, 0, 0) 1669 := zi_aload_n (by decide +kernel : decode zY_172.2.1 1668 = .ok (.aload_n 0, 1)) rfl
theorem zf_zm_172_915 (env : List (Nat × Nat)) : zI9 172 zY_172 zm_172 env (1669, 63, 4, 0, 0) 1671 := zi_iload (by decide +kernel : decode zY_172.2.1 1669 = .ok (.iload 4, 2))
theorem zf_zm_172_916 (env : List (Nat × Nat)) : zI9 172 zY_172 zm_172 env (1671, 2, 1, 0, 0) 1672 := zi_iconst (by decide +kernel : decode zY_172.2.1 1671 = .ok (.iconst 1, 1)) (by decide +kernel)
theorem zf_zm_172_917 (env : List (Nat × Nat)) : zI9 172 zY_172 zm_172 env (1672, 9, 0, 0, 0) 1673 := zi_iadd (by decide +kernel : decode zY_172.2.1 1672 = .ok (.iadd, 1))
theorem zf_zm_172_918 (env : List (Nat × Nat)) : zI9 172 zY_172 zm_172 env (1673, 8, 0, 0, 0) 1674 := zi_iald (zscr_ok (by decide +kernel : decode zY_172.2.1 1673 = .ok (.iaload, 1))) (by decide +kernel : decode zY_172.2.1 1673 = .ok (.iaload, 1))
theorem zf_zm_172_919 (env : List (Nat × Nat)) : zI9 172 zY_172 zm_172 env (1674, 0, 0, 0, 0) 1675 := zi_aload_n (by decide +kernel : decode zY_172.2.1 1674 = .ok (.aload_n 0, 1)) rfl
theorem zf_zm_172_920 (env : List (Nat × Nat)) : zI9 172 zY_172 zm_172 env (1675, 63, 4, 0, 0) 1677 := zi_iload (by decide +kernel : decode zY_172.2.1 1675 = .ok (.iload 4, 2))
theorem zf_zm_172_921 (env : List (Nat × Nat)) : zI9 172 zY_172 zm_172 env (1677, 2, 2, 0, 0) 1678 := zi_iconst (by decide +kernel : decode zY_172.2.1 1677 = .ok (.iconst 2, 1)) (by decide +kernel)
theorem zf_zm_172_922 (env : List (Nat × Nat)) : zI9 172 zY_172 zm_172 env (1678, 9, 0, 0, 0) 1679 := zi_iadd (by decide +kernel : decode zY_172.2.1 1678 = .ok (.iadd, 1))
theorem zf_zm_172_923 (env : List (Nat × Nat)) : zI9 172 zY_172 zm_172 env (1679, 8, 0, 0, 0) 1680 := zi_iald (zscr_ok (by decide +kernel : decode zY_172.2.1 1679 = .ok (.iaload, 1))) (by decide +kernel : decode zY_172.2.1 1679 = .ok (.iaload, 1))
theorem zf_zm_172_924 (env : List (Nat × Nat)) : zI9 172 zY_172 zm_172 env (1680, 0, 3, 0, 0) 1681 := zi_aload_n (by decide +kernel : decode zY_172.2.1 1680 = .ok (.aload_n 3, 1)) rfl
theorem zf_zm_172_925 (env : List (Nat × Nat)) : zC9 172 zm_172 env (1681, 66, 165, 261, 0) := zi_call (by decide +kernel) (zr_SW (i := 200) zX_ok rfl (zgood_165) (by decide +kernel) (zw_T zwd_781) (zw_T zwd_900) (zw_T zwd_901) ⟨by decide +kernel, by decide +kernel, by decide +kernel⟩ (by decide +kernel : decode (zYf 172).2.1 1681 = .ok (.invokestatic 200, 3)))
theorem zf_zm_172_926 (env : List (Nat × Nat)) : zI9 172 zY_172 zm_172 env (1684, 10, 5, 0, 0) 1686 := zi_istore (by decide +kernel : decode zY_172.2.1 1684 = .ok (.istore 5, 2)) (by decide)
theorem zf_zm_172_927 (env : List (Nat × Nat)) : zI9 172 zY_172 zm_172 env (1686, 0, 2, 0, 0) 1687 := zi_aload_n (by decide +kernel : decode zY_172.2.1 1686 = .ok (.aload_n 2, 1)) rfl
theorem zf_zm_172_928 (env : List (Nat × Nat)) : zI9 172 zY_172 zm_172 env (1687, 0, 0, 0, 0) 1688 := zi_aload_n (by decide +kernel : decode zY_172.2.1 1687 = .ok (.aload_n 0, 1)) rfl
theorem zf_zm_172_929 (env : List (Nat × Nat)) : zI9 172 zY_172 zm_172 env (1688, 63, 4, 0, 0) 1690 := zi_iload (by decide +kernel : decode zY_172.2.1 1688 = .ok (.iload 4, 2))
theorem zf_zm_172_930 (env : List (Nat × Nat)) : zI9 172 zY_172 zm_172 env (1690, 2, 1, 0, 0) 1691 := zi_iconst (by decide +kernel : decode zY_172.2.1 1690 = .ok (.iconst 1, 1)) (by decide +kernel)
theorem zf_zm_172_931 (env : List (Nat × Nat)) : zI9 172 zY_172 zm_172 env (1691, 9, 0, 0, 0) 1692 := zi_iadd (by decide +kernel : decode zY_172.2.1 1691 = .ok (.iadd, 1))
theorem zf_zm_172_932 (env : List (Nat × Nat)) : zI9 172 zY_172 zm_172 env (1692, 8, 0, 0, 0) 1693 := zi_iald (zscr_ok (by decide +kernel : decode zY_172.2.1 1692 = .ok (.iaload, 1))) (by decide +kernel : decode zY_172.2.1 1692 = .ok (.iaload, 1))
theorem zf_zm_172_933 (env : List (Nat × Nat)) : zI9 172 zY_172 zm_172 env (1693, 0, 0, 0, 0) 1694 := zi_aload_n (by decide +kernel : decode zY_172.2.1 1693 = .ok (.aload_n 0, 1)) rfl
theorem zf_zm_172_934 (env : List (Nat × Nat)) : zI9 172 zY_172 zm_172 env (1694, 63, 4, 0, 0) 1696 := zi_iload (by decide +kernel : decode zY_172.2.1 1694 = .ok (.iload 4, 2))
theorem zf_zm_172_935 (env : List (Nat × Nat)) : zI9 172 zY_172 zm_172 env (1696, 2, 2, 0, 0) 1697 := zi_iconst (by decide +kernel : decode zY_172.2.1 1696 = .ok (.iconst 2, 1)) (by decide +kernel)
theorem zf_zm_172_936 (env : List (Nat × Nat)) : zI9 172 zY_172 zm_172 env (1697, 9, 0, 0, 0) 1698 := zi_iadd (by decide +kernel : decode zY_172.2.1 1697 = .ok (.iadd, 1))
theorem zf_zm_172_937 (env : List (Nat × Nat)) : zI9 172 zY_172 zm_172 env (1698, 8, 0, 0, 0) 1699 := zi_iald (zscr_ok (by decide +kernel : decode zY_172.2.1 1698 = .ok (.iaload, 1))) (by decide +kernel : decode zY_172.2.1 1698 = .ok (.iaload, 1))
theorem zf_zm_172_938 (env : List (Nat × Nat)) : zC9 172 zm_172 env (1699, 66, 70, 196, 3) := zi_call (by decide +kernel) (zr_V (i := 202) (n := 2) (q := ("TransportPairModel", zF_1, 23)) zX_ok rfl (zgood_70) (by decide +kernel) (zw_T zwd_250) (zw_T zwd_902) (zw_T zwd_903) rfl (zw_T zwd_904) ⟨by decide +kernel, by decide +kernel, by decide +kernel⟩ rfl (by decide +kernel : decode (zYf 172).2.1 1699 = .ok (.invokevirtual 202, 3)))
theorem zf_zm_172_939 (env : List (Nat × Nat)) : zI9 172 zY_172 zm_172 env (1702, 10, 6, 0, 0) 1704 := zi_istore (by decide +kernel : decode zY_172.2.1 1702 = .ok (.istore 6, 2)) (by decide)
theorem zf_zm_172_940 (env : List (Nat × Nat)) : zI9 172 zY_172 zm_172 env (1704, 0, 2, 0, 0) 1705 := zi_aload_n (by decide +kernel : decode zY_172.2.1 1704 = .ok (.aload_n 2, 1)) rfl
theorem zf_zm_172_941 (env : List (Nat × Nat)) : zC9 172 zm_172 env (1705, 66, 43, 65, 3) := zi_call (by decide +kernel) (zr_V (i := 122) (n := 0) (q := ("TransportPairModel", zF_1, 23)) zX_ok rfl (zgood_43) (by decide +kernel) (zw_T zwd_250) (zw_T zwd_787) (zw_T zwd_788) rfl (zw_T zwd_789) ⟨by decide +kernel, by decide +kernel, by decide +kernel⟩ rfl (by decide +kernel : decode (zYf 172).2.1 1705 = .ok (.invokevirtual 122, 3)))
theorem zf_zm_172_942 (env : List (Nat × Nat)) : zI9 172 zY_172 zm_172 env (1708, 63, 5, 0, 0) 1710 := zi_iload (by decide +kernel : decode zY_172.2.1 1708 = .ok (.iload 5, 2))
theorem zf_zm_172_943 (env : List (Nat × Nat)) : zI9 172 zY_172 zm_172 env (1710, 20, 945, 0, 0) 1713 := zi_icmp_eq (off := 5) (t := 1715) (by decide +kernel : decode zY_172.2.1 1710 = .ok (.if_icmp .eq 5, 3)) (by decide) (by decide +kernel)
theorem zf_zm_172_944 (env : List (Nat × Nat)) : zI9 172 zY_172 zm_172 env (1713, 99, 0, 0, 0) 1715 := zi_none
theorem zf_zm_172_945 (env : List (Nat × Nat)) : zI9 172 zY_172 zm_172 env (1715, 63, 5, 0, 0) 1717 := zi_iload (by decide +kernel : decode zY_172.2.1 1715 = .ok (.iload 5, 2))
theorem zf_zm_172_946 (env : List (Nat × Nat)) : zI9 172 zY_172 zm_172 env (1717, 6, 955, 0, 0) 1720 := zi_if_ne (off := 15) (t := 1732) (by decide +kernel : decode zY_172.2.1 1717 = .ok (.ifCond .ne 15, 3)) (by decide) (by decide +kernel)
theorem zf_zm_172_947 (env : List (Nat × Nat)) : zI9 172 zY_172 zm_172 env (1720, 0, 3, 0, 0) 1721 := zi_aload_n (by decide +kernel : decode zY_172.2.1 1720 = .ok (.aload_n 3, 1)) rfl
theorem zf_zm_172_948 (env : List (Nat × Nat)) : zI9 172 zY_172 zm_172 env (1721, 2, 0, 0, 0) 1722 := zi_iconst (by decide +kernel : decode zY_172.2.1 1721 = .ok (.iconst 0, 1)) (by decide +kernel)
theorem zf_zm_172_949 (env : List (Nat × Nat)) : zI9 172 zY_172 zm_172 env (1722, 26, 0, 0, 0) 1723 := zi_lald (by decide +kernel : decode zY_172.2.1 1722 = .ok (.laload, 1))
theorem zf_zm_172_950 (env : List (Nat × Nat)) : zI9 172 zY_172 zm_172 env (1723, 63, 6, 0, 0) 1725 := zi_iload (by decide +kernel : decode zY_172.2.1 1723 = .ok (.iload 6, 2))
theorem zf_zm_172_951 (env : List (Nat × Nat)) : zI9 172 zY_172 zm_172 env (1725, 16, 0, 0, 0) 1726 := zi_i2l (by decide +kernel : decode zY_172.2.1 1725 = .ok (.i2l, 1))
theorem zf_zm_172_952 (env : List (Nat × Nat)) : zI9 172 zY_172 zm_172 env (1726, 34, 0, 0, 0) 1727 := zi_lcmp (by decide +kernel : decode zY_172.2.1 1726 = .ok (.lcmp, 1))
theorem zf_zm_172_953 (env : List (Nat × Nat)) : zI9 172 zY_172 zm_172 env (1727, 5, 955, 0, 0) 1730 := zi_if_eq (off := 5) (t := 1732) (by decide +kernel : decode zY_172.2.1 1727 = .ok (.ifCond .eq 5, 3)) (by decide) (by decide +kernel)
theorem zf_zm_172_954 (env : List (Nat × Nat)) : zI9 172 zY_172 zm_172 env (1730, 99, 0, 0, 0) 1732 := zi_none
theorem zf_zm_172_955 (env : List (Nat × Nat)) : zI9 172 zY_172 zm_172 env (1732, 7, 1145, 0, 0) 1735 := zi_goto (off := 296) (t := 2028) (by decide +kernel : decode zY_172.2.1 1732 = .ok (.goto 296, 3)) (by decide) (by decide +kernel)
theorem zf_zm_172_956 (env : List (Nat × Nat)) : zI9 172 zY_172 zm_172 env (1735, 0, 1, 0, 0) 1736 := zi_aload_n (by decide +kernel : decode zY_172.2.1 1735 = .ok (.aload_n 1, 1)) rfl
theorem zf_zm_172_957 (env : List (Nat × Nat)) : zI9 172 zY_172 zm_172 env (1736, 0, 0, 0, 0) 1737 := zi_aload_n (by decide +kernel : decode zY_172.2.1 1736 = .ok (.aload_n 0, 1)) rfl
theorem zf_zm_172_958 (env : List (Nat × Nat)) : zI9 172 zY_172 zm_172 env (1737, 63, 4, 0, 0) 1739 := zi_iload (by decide +kernel : decode zY_172.2.1 1737 = .ok (.iload 4, 2))
theorem zf_zm_172_959 (env : List (Nat × Nat)) : zI9 172 zY_172 zm_172 env (1739, 2, 1, 0, 0) 1740 := zi_iconst (by decide +kernel : decode zY_172.2.1 1739 = .ok (.iconst 1, 1)) (by decide +kernel)
theorem zf_zm_172_960 (env : List (Nat × Nat)) : zI9 172 zY_172 zm_172 env (1740, 9, 0, 0, 0) 1741 := zi_iadd (by decide +kernel : decode zY_172.2.1 1740 = .ok (.iadd, 1))
theorem zf_zm_172_961 (env : List (Nat × Nat)) : zI9 172 zY_172 zm_172 env (1741, 8, 0, 0, 0) 1742 := zi_iald (zscr_ok (by decide +kernel : decode zY_172.2.1 1741 = .ok (.iaload, 1))) (by decide +kernel : decode zY_172.2.1 1741 = .ok (.iaload, 1))
theorem zf_zm_172_962 (env : List (Nat × Nat)) : zI9 172 zY_172 zm_172 env (1742, 0, 0, 0, 0) 1743 := zi_aload_n (by decide +kernel : decode zY_172.2.1 1742 = .ok (.aload_n 0, 1)) rfl
theorem zf_zm_172_963 (env : List (Nat × Nat)) : zI9 172 zY_172 zm_172 env (1743, 63, 4, 0, 0) 1745 := zi_iload (by decide +kernel : decode zY_172.2.1 1743 = .ok (.iload 4, 2))
theorem zf_zm_172_964 (env : List (Nat × Nat)) : zI9 172 zY_172 zm_172 env (1745, 2, 2, 0, 0) 1746 := zi_iconst (by decide +kernel : decode zY_172.2.1 1745 = .ok (.iconst 2, 1)) (by decide +kernel)
theorem zf_zm_172_965 (env : List (Nat × Nat)) : zI9 172 zY_172 zm_172 env (1746, 9, 0, 0, 0) 1747 := zi_iadd (by decide +kernel : decode zY_172.2.1 1746 = .ok (.iadd, 1))
theorem zf_zm_172_966 (env : List (Nat × Nat)) : zI9 172 zY_172 zm_172 env (1747, 8, 0, 0, 0) 1748 := zi_iald (zscr_ok (by decide +kernel : decode zY_172.2.1 1747 = .ok (.iaload, 1))) (by decide +kernel : decode zY_172.2.1 1747 = .ok (.iaload, 1))
theorem zf_zm_172_967 (env : List (Nat × Nat)) : zI9 172 zY_172 zm_172 env (1748, 0, 3, 0, 0) 1749 := zi_aload_n (by decide +kernel : decode zY_172.2.1 1748 = .ok (.aload_n 3, 1)) rfl
theorem zf_zm_172_968 (env : List (Nat × Nat)) : zC9 172 zm_172 env (1749, 66, 166, 261, 0) := zi_call (by decide +kernel) (zr_SW (i := 203) zX_ok rfl (zgood_166) (by decide +kernel) (zw_T zwd_781) (zw_T zwd_905) (zw_T zwd_906) ⟨by decide +kernel, by decide +kernel, by decide +kernel⟩ (by decide +kernel : decode (zYf 172).2.1 1749 = .ok (.invokestatic 203, 3)))
theorem zf_zm_172_969 (env : List (Nat × Nat)) : zI9 172 zY_172 zm_172 env (1752, 10, 5, 0, 0) 1754 := zi_istore (by decide +kernel : decode zY_172.2.1 1752 = .ok (.istore 5, 2)) (by decide)
theorem zf_zm_172_970 (env : List (Nat × Nat)) : zI9 172 zY_172 zm_172 env (1754, 0, 2, 0, 0) 1755 := zi_aload_n (by decide +kernel : decode zY_172.2.1 1754 = .ok (.aload_n 2, 1)) rfl
theorem zf_zm_172_971 (env : List (Nat × Nat)) : zI9 172 zY_172 zm_172 env (1755, 0, 0, 0, 0) 1756 := zi_aload_n (by decide +kernel : decode zY_172.2.1 1755 = .ok (.aload_n 0, 1)) rfl
theorem zf_zm_172_972 (env : List (Nat × Nat)) : zI9 172 zY_172 zm_172 env (1756, 63, 4, 0, 0) 1758 := zi_iload (by decide +kernel : decode zY_172.2.1 1756 = .ok (.iload 4, 2))
theorem zf_zm_172_973 (env : List (Nat × Nat)) : zI9 172 zY_172 zm_172 env (1758, 2, 1, 0, 0) 1759 := zi_iconst (by decide +kernel : decode zY_172.2.1 1758 = .ok (.iconst 1, 1)) (by decide +kernel)
theorem zf_zm_172_974 (env : List (Nat × Nat)) : zI9 172 zY_172 zm_172 env (1759, 9, 0, 0, 0) 1760 := zi_iadd (by decide +kernel : decode zY_172.2.1 1759 = .ok (.iadd, 1))
theorem zf_zm_172_975 (env : List (Nat × Nat)) : zI9 172 zY_172 zm_172 env (1760, 8, 0, 0, 0) 1761 := zi_iald (zscr_ok (by decide +kernel : decode zY_172.2.1 1760 = .ok (.iaload, 1))) (by decide +kernel : decode zY_172.2.1 1760 = .ok (.iaload, 1))
theorem zf_zm_172_976 (env : List (Nat × Nat)) : zI9 172 zY_172 zm_172 env (1761, 0, 0, 0, 0) 1762 := zi_aload_n (by decide +kernel : decode zY_172.2.1 1761 = .ok (.aload_n 0, 1)) rfl
theorem zf_zm_172_977 (env : List (Nat × Nat)) : zI9 172 zY_172 zm_172 env (1762, 63, 4, 0, 0) 1764 := zi_iload (by decide +kernel : decode zY_172.2.1 1762 = .ok (.iload 4, 2))
theorem zf_zm_172_978 (env : List (Nat × Nat)) : zI9 172 zY_172 zm_172 env (1764, 2, 2, 0, 0) 1765 := zi_iconst (by decide +kernel : decode zY_172.2.1 1764 = .ok (.iconst 2, 1)) (by decide +kernel)
theorem zf_zm_172_979 (env : List (Nat × Nat)) : zI9 172 zY_172 zm_172 env (1765, 9, 0, 0, 0) 1766 := zi_iadd (by decide +kernel : decode zY_172.2.1 1765 = .ok (.iadd, 1))
theorem zf_zm_172_980 (env : List (Nat × Nat)) : zI9 172 zY_172 zm_172 env (1766, 8, 0, 0, 0) 1767 := zi_iald (zscr_ok (by decide +kernel : decode zY_172.2.1 1766 = .ok (.iaload, 1))) (by decide +kernel : decode zY_172.2.1 1766 = .ok (.iaload, 1))
theorem zf_zm_172_981 (env : List (Nat × Nat)) : zC9 172 zm_172 env (1767, 66, 71, 195, 3) := zi_call (by decide +kernel) (zr_V (i := 205) (n := 2) (q := ("TransportPairModel", zF_1, 23)) zX_ok rfl (zgood_71) (by decide +kernel) (zw_T zwd_250) (zw_T zwd_907) (zw_T zwd_908) rfl (zw_T zwd_909) ⟨by decide +kernel, by decide +kernel, by decide +kernel⟩ rfl (by decide +kernel : decode (zYf 172).2.1 1767 = .ok (.invokevirtual 205, 3)))
theorem zf_zm_172_982 (env : List (Nat × Nat)) : zI9 172 zY_172 zm_172 env (1770, 10, 6, 0, 0) 1772 := zi_istore (by decide +kernel : decode zY_172.2.1 1770 = .ok (.istore 6, 2)) (by decide)
theorem zf_zm_172_983 (env : List (Nat × Nat)) : zI9 172 zY_172 zm_172 env (1772, 0, 2, 0, 0) 1773 := zi_aload_n (by decide +kernel : decode zY_172.2.1 1772 = .ok (.aload_n 2, 1)) rfl
theorem zf_zm_172_984 (env : List (Nat × Nat)) : zC9 172 zm_172 env (1773, 66, 43, 65, 3) := zi_call (by decide +kernel) (zr_V (i := 122) (n := 0) (q := ("TransportPairModel", zF_1, 23)) zX_ok rfl (zgood_43) (by decide +kernel) (zw_T zwd_250) (zw_T zwd_787) (zw_T zwd_788) rfl (zw_T zwd_789) ⟨by decide +kernel, by decide +kernel, by decide +kernel⟩ rfl (by decide +kernel : decode (zYf 172).2.1 1773 = .ok (.invokevirtual 122, 3)))
theorem zf_zm_172_985 (env : List (Nat × Nat)) : zI9 172 zY_172 zm_172 env (1776, 63, 5, 0, 0) 1778 := zi_iload (by decide +kernel : decode zY_172.2.1 1776 = .ok (.iload 5, 2))
theorem zf_zm_172_986 (env : List (Nat × Nat)) : zI9 172 zY_172 zm_172 env (1778, 20, 988, 0, 0) 1781 := zi_icmp_eq (off := 5) (t := 1783) (by decide +kernel : decode zY_172.2.1 1778 = .ok (.if_icmp .eq 5, 3)) (by decide) (by decide +kernel)
theorem zf_zm_172_987 (env : List (Nat × Nat)) : zI9 172 zY_172 zm_172 env (1781, 99, 0, 0, 0) 1783 := zi_none
theorem zf_zm_172_988 (env : List (Nat × Nat)) : zI9 172 zY_172 zm_172 env (1783, 63, 5, 0, 0) 1785 := zi_iload (by decide +kernel : decode zY_172.2.1 1783 = .ok (.iload 5, 2))
theorem zf_zm_172_989 (env : List (Nat × Nat)) : zI9 172 zY_172 zm_172 env (1785, 6, 998, 0, 0) 1788 := zi_if_ne (off := 15) (t := 1800) (by decide +kernel : decode zY_172.2.1 1785 = .ok (.ifCond .ne 15, 3)) (by decide) (by decide +kernel)
theorem zf_zm_172_990 (env : List (Nat × Nat)) : zI9 172 zY_172 zm_172 env (1788, 0, 3, 0, 0) 1789 := zi_aload_n (by decide +kernel : decode zY_172.2.1 1788 = .ok (.aload_n 3, 1)) rfl
theorem zf_zm_172_991 (env : List (Nat × Nat)) : zI9 172 zY_172 zm_172 env (1789, 2, 0, 0, 0) 1790 := zi_iconst (by decide +kernel : decode zY_172.2.1 1789 = .ok (.iconst 0, 1)) (by decide +kernel)
theorem zf_zm_172_992 (env : List (Nat × Nat)) : zI9 172 zY_172 zm_172 env (1790, 26, 0, 0, 0) 1791 := zi_lald (by decide +kernel : decode zY_172.2.1 1790 = .ok (.laload, 1))
theorem zf_zm_172_993 (env : List (Nat × Nat)) : zI9 172 zY_172 zm_172 env (1791, 63, 6, 0, 0) 1793 := zi_iload (by decide +kernel : decode zY_172.2.1 1791 = .ok (.iload 6, 2))
theorem zf_zm_172_994 (env : List (Nat × Nat)) : zI9 172 zY_172 zm_172 env (1793, 16, 0, 0, 0) 1794 := zi_i2l (by decide +kernel : decode zY_172.2.1 1793 = .ok (.i2l, 1))
theorem zf_zm_172_995 (env : List (Nat × Nat)) : zI9 172 zY_172 zm_172 env (1794, 34, 0, 0, 0) 1795 := zi_lcmp (by decide +kernel : decode zY_172.2.1 1794 = .ok (.lcmp, 1))
theorem zf_zm_172_996 (env : List (Nat × Nat)) : zI9 172 zY_172 zm_172 env (1795, 5, 998, 0, 0) 1798 := zi_if_eq (off := 5) (t := 1800) (by decide +kernel : decode zY_172.2.1 1795 = .ok (.ifCond .eq 5, 3)) (by decide) (by decide +kernel)
theorem zf_zm_172_997 (env : List (Nat × Nat)) : zI9 172 zY_172 zm_172 env (1798, 99, 0, 0, 0) 1800 := zi_none
theorem zf_zm_172_998 (env : List (Nat × Nat)) : zI9 172 zY_172 zm_172 env (1800, 7, 1145, 0, 0) 1803 := zi_goto (off := 228) (t := 2028) (by decide +kernel : decode zY_172.2.1 1800 = .ok (.goto 228, 3)) (by decide) (by decide +kernel)
theorem zf_zm_172_999 (env : List (Nat × Nat)) : zI9 172 zY_172 zm_172 env (1803, 0, 1, 0, 0) 1804 := zi_aload_n (by decide +kernel : decode zY_172.2.1 1803 = .ok (.aload_n 1, 1)) rfl
theorem zf_zm_172_1000 (env : List (Nat × Nat)) : zI9 172 zY_172 zm_172 env (1804, 0, 0, 0, 0) 1805 := zi_aload_n (by decide +kernel : decode zY_172.2.1 1804 = .ok (.aload_n 0, 1)) rfl
theorem zf_zm_172_1001 (env : List (Nat × Nat)) : zI9 172 zY_172 zm_172 env (1805, 63, 4, 0, 0) 1807 := zi_iload (by decide +kernel : decode zY_172.2.1 1805 = .ok (.iload 4, 2))
theorem zf_zm_172_1002 (env : List (Nat × Nat)) : zI9 172 zY_172 zm_172 env (1807, 2, 1, 0, 0) 1808 := zi_iconst (by decide +kernel : decode zY_172.2.1 1807 = .ok (.iconst 1, 1)) (by decide +kernel)
theorem zf_zm_172_1003 (env : List (Nat × Nat)) : zI9 172 zY_172 zm_172 env (1808, 9, 0, 0, 0) 1809 := zi_iadd (by decide +kernel : decode zY_172.2.1 1808 = .ok (.iadd, 1))
theorem zf_zm_172_1004 (env : List (Nat × Nat)) : zI9 172 zY_172 zm_172 env (1809, 8, 0, 0, 0) 1810 := zi_iald (zscr_ok (by decide +kernel : decode zY_172.2.1 1809 = .ok (.iaload, 1))) (by decide +kernel : decode zY_172.2.1 1809 = .ok (.iaload, 1))
theorem zf_zm_172_1005 (env : List (Nat × Nat)) : zI9 172 zY_172 zm_172 env (1810, 0, 0, 0, 0) 1811 := zi_aload_n (by decide +kernel : decode zY_172.2.1 1810 = .ok (.aload_n 0, 1)) rfl
theorem zf_zm_172_1006 (env : List (Nat × Nat)) : zI9 172 zY_172 zm_172 env (1811, 63, 4, 0, 0) 1813 := zi_iload (by decide +kernel : decode zY_172.2.1 1811 = .ok (.iload 4, 2))
theorem zf_zm_172_1007 (env : List (Nat × Nat)) : zI9 172 zY_172 zm_172 env (1813, 2, 2, 0, 0) 1814 := zi_iconst (by decide +kernel : decode zY_172.2.1 1813 = .ok (.iconst 2, 1)) (by decide +kernel)
theorem zf_zm_172_1008 (env : List (Nat × Nat)) : zI9 172 zY_172 zm_172 env (1814, 9, 0, 0, 0) 1815 := zi_iadd (by decide +kernel : decode zY_172.2.1 1814 = .ok (.iadd, 1))
theorem zf_zm_172_1009 (env : List (Nat × Nat)) : zI9 172 zY_172 zm_172 env (1815, 8, 0, 0, 0) 1816 := zi_iald (zscr_ok (by decide +kernel : decode zY_172.2.1 1815 = .ok (.iaload, 1))) (by decide +kernel : decode zY_172.2.1 1815 = .ok (.iaload, 1))
theorem zf_zm_172_1010 (env : List (Nat × Nat)) : zI9 172 zY_172 zm_172 env (1816, 0, 0, 0, 0) 1817 := zi_aload_n (by decide +kernel : decode zY_172.2.1 1816 = .ok (.aload_n 0, 1)) rfl
theorem zf_zm_172_1011 (env : List (Nat × Nat)) : zI9 172 zY_172 zm_172 env (1817, 63, 4, 0, 0) 1819 := zi_iload (by decide +kernel : decode zY_172.2.1 1817 = .ok (.iload 4, 2))
theorem zf_zm_172_1012 (env : List (Nat × Nat)) : zI9 172 zY_172 zm_172 env (1819, 2, 3, 0, 0) 1820 := zi_iconst (by decide +kernel : decode zY_172.2.1 1819 = .ok (.iconst 3, 1)) (by decide +kernel)
theorem zf_zm_172_1013 (env : List (Nat × Nat)) : zI9 172 zY_172 zm_172 env (1820, 9, 0, 0, 0) 1821 := zi_iadd (by decide +kernel : decode zY_172.2.1 1820 = .ok (.iadd, 1))
theorem zf_zm_172_1014 (env : List (Nat × Nat)) : zI9 172 zY_172 zm_172 env (1821, 8, 0, 0, 0) 1822 := zi_iald (zscr_ok (by decide +kernel : decode zY_172.2.1 1821 = .ok (.iaload, 1))) (by decide +kernel : decode zY_172.2.1 1821 = .ok (.iaload, 1))
theorem zf_zm_172_1015 (env : List (Nat × Nat)) : zI9 172 zY_172 zm_172 env (1822, 0, 3, 0, 0) 1823 := zi_aload_n (by decide +kernel : decode zY_172.2.1 1822 = .ok (.aload_n 3, 1)) rfl
theorem zf_zm_172_1016 (env : List (Nat × Nat)) : zC9 172 zm_172 env (1823, 66, 167, 326, 0) := zi_call (by decide +kernel) (zr_SW (i := 206) zX_ok rfl (zgood_167) (by decide +kernel) (zw_T zwd_781) (zw_T zwd_910) (zw_T zwd_911) ⟨by decide +kernel, by decide +kernel, by decide +kernel⟩ (by decide +kernel : decode (zYf 172).2.1 1823 = .ok (.invokestatic 206, 3)))
theorem zf_zm_172_1017 (env : List (Nat × Nat)) : zI9 172 zY_172 zm_172 env (1826, 10, 5, 0, 0) 1828 := zi_istore (by decide +kernel : decode zY_172.2.1 1826 = .ok (.istore 5, 2)) (by decide)
theorem zf_zm_172_1018 (env : List (Nat × Nat)) : zI9 172 zY_172 zm_172 env (1828, 0, 2, 0, 0) 1829 := zi_aload_n (by decide +kernel : decode zY_172.2.1 1828 = .ok (.aload_n 2, 1)) rfl
theorem zf_zm_172_1019 (env : List (Nat × Nat)) : zI9 172 zY_172 zm_172 env (1829, 0, 0, 0, 0) 1830 := zi_aload_n (by decide +kernel : decode zY_172.2.1 1829 = .ok (.aload_n 0, 1)) rfl
theorem zf_zm_172_1020 (env : List (Nat × Nat)) : zI9 172 zY_172 zm_172 env (1830, 63, 4, 0, 0) 1832 := zi_iload (by decide +kernel : decode zY_172.2.1 1830 = .ok (.iload 4, 2))
theorem zf_zm_172_1021 (env : List (Nat × Nat)) : zI9 172 zY_172 zm_172 env (1832, 2, 1, 0, 0) 1833 := zi_iconst (by decide +kernel : decode zY_172.2.1 1832 = .ok (.iconst 1, 1)) (by decide +kernel)
theorem zf_zm_172_1022 (env : List (Nat × Nat)) : zI9 172 zY_172 zm_172 env (1833, 9, 0, 0, 0) 1834 := zi_iadd (by decide +kernel : decode zY_172.2.1 1833 = .ok (.iadd, 1))
theorem zf_zm_172_1023 (env : List (Nat × Nat)) : zI9 172 zY_172 zm_172 env (1834, 8, 0, 0, 0) 1835 := zi_iald (zscr_ok (by decide +kernel : decode zY_172.2.1 1834 = .ok (.iaload, 1))) (by decide +kernel : decode zY_172.2.1 1834 = .ok (.iaload, 1))
theorem zf_zm_172_1024 (env : List (Nat × Nat)) : zI9 172 zY_172 zm_172 env (1835, 0, 0, 0, 0) 1836 := zi_aload_n (by decide +kernel : decode zY_172.2.1 1835 = .ok (.aload_n 0, 1)) rfl
theorem zf_zm_172_1025 (env : List (Nat × Nat)) : zI9 172 zY_172 zm_172 env (1836, 63, 4, 0, 0) 1838 := zi_iload (by decide +kernel : decode zY_172.2.1 1836 = .ok (.iload 4, 2))
theorem zf_zm_172_1026 (env : List (Nat × Nat)) : zI9 172 zY_172 zm_172 env (1838, 2, 2, 0, 0) 1839 := zi_iconst (by decide +kernel : decode zY_172.2.1 1838 = .ok (.iconst 2, 1)) (by decide +kernel)
theorem zf_zm_172_1027 (env : List (Nat × Nat)) : zI9 172 zY_172 zm_172 env (1839, 9, 0, 0, 0) 1840 := zi_iadd (by decide +kernel : decode zY_172.2.1 1839 = .ok (.iadd, 1))
theorem zf_zm_172_1028 (env : List (Nat × Nat)) : zI9 172 zY_172 zm_172 env (1840, 8, 0, 0, 0) 1841 := zi_iald (zscr_ok (by decide +kernel : decode zY_172.2.1 1840 = .ok (.iaload, 1))) (by decide +kernel : decode zY_172.2.1 1840 = .ok (.iaload, 1))
theorem zf_zm_172_1029 (env : List (Nat × Nat)) : zI9 172 zY_172 zm_172 env (1841, 0, 0, 0, 0) 1842 := zi_aload_n (by decide +kernel : decode zY_172.2.1 1841 = .ok (.aload_n 0, 1)) rfl
theorem zf_zm_172_1030 (env : List (Nat × Nat)) : zI9 172 zY_172 zm_172 env (1842, 63, 4, 0, 0) 1844 := zi_iload (by decide +kernel : decode zY_172.2.1 1842 = .ok (.iload 4, 2))
theorem zf_zm_172_1031 (env : List (Nat × Nat)) : zI9 172 zY_172 zm_172 env (1844, 2, 3, 0, 0) 1845 := zi_iconst (by decide +kernel : decode zY_172.2.1 1844 = .ok (.iconst 3, 1)) (by decide +kernel)
theorem zf_zm_172_1032 (env : List (Nat × Nat)) : zI9 172 zY_172 zm_172 env (1845, 9, 0, 0, 0) 1846 := zi_iadd (by decide +kernel : decode zY_172.2.1 1845 = .ok (.iadd, 1))
theorem zf_zm_172_1033 (env : List (Nat × Nat)) : zI9 172 zY_172 zm_172 env (1846, 8, 0, 0, 0) 1847 := zi_iald (zscr_ok (by decide +kernel : decode zY_172.2.1 1846 = .ok (.iaload, 1))) (by decide +kernel : decode zY_172.2.1 1846 = .ok (.iaload, 1))
theorem zf_zm_172_1034 (env : List (Nat × Nat)) : zC9 172 zm_172 env (1847, 66, 72, 260, 3) := zi_call (by decide +kernel) (zr_V (i := 208) (n := 3) (q := ("TransportPairModel", zF_1, 23)) zX_ok rfl (zgood_72) (by decide +kernel) (zw_T zwd_250) (zw_T zwd_912) (zw_T zwd_913) rfl (zw_T zwd_914) ⟨by decide +kernel, by decide +kernel, by decide +kernel⟩ rfl (by decide +kernel : decode (zYf 172).2.1 1847 = .ok (.invokevirtual 208, 3)))
theorem zf_zm_172_1035 (env : List (Nat × Nat)) : zI9 172 zY_172 zm_172 env (1850, 41, 6, 0, 0) 1852 := zi_lstore (by decide +kernel : decode zY_172.2.1 1850 = .ok (.lstore 6, 2)) (by decide)
theorem zf_zm_172_1036 (env : List (Nat × Nat)) : zI9 172 zY_172 zm_172 env (1852, 0, 2, 0, 0) 1853 := zi_aload_n (by decide +kernel : decode zY_172.2.1 1852 = .ok (.aload_n 2, 1)) rfl
theorem zf_zm_172_1037 (env : List (Nat × Nat)) : zC9 172 zm_172 env (1853, 66, 43, 65, 3) := zi_call (by decide +kernel) (zr_V (i := 122) (n := 0) (q := ("TransportPairModel", zF_1, 23)) zX_ok rfl (zgood_43) (by decide +kernel) (zw_T zwd_250) (zw_T zwd_787) (zw_T zwd_788) rfl (zw_T zwd_789) ⟨by decide +kernel, by decide +kernel, by decide +kernel⟩ rfl (by decide +kernel : decode (zYf 172).2.1 1853 = .ok (.invokevirtual 122, 3)))
theorem zf_zm_172_1038 (env : List (Nat × Nat)) : zI9 172 zY_172 zm_172 env (1856, 63, 5, 0, 0) 1858 := zi_iload (by decide +kernel : decode zY_172.2.1 1856 = .ok (.iload 5, 2))
theorem zf_zm_172_1039 (env : List (Nat × Nat)) : zI9 172 zY_172 zm_172 env (1858, 20, 1041, 0, 0) 1861 := zi_icmp_eq (off := 5) (t := 1863) (by decide +kernel : decode zY_172.2.1 1858 = .ok (.if_icmp .eq 5, 3)) (by decide) (by decide +kernel)
theorem zf_zm_172_1040 (env : List (Nat × Nat)) : zI9 172 zY_172 zm_172 env (1861, 99, 0, 0, 0) 1863 := zi_none
theorem zf_zm_172_1041 (env : List (Nat × Nat)) : zI9 172 zY_172 zm_172 env (1863, 63, 5, 0, 0) 1865 := zi_iload (by decide +kernel : decode zY_172.2.1 1863 = .ok (.iload 5, 2))
theorem zf_zm_172_1042 (env : List (Nat × Nat)) : zI9 172 zY_172 zm_172 env (1865, 6, 1050, 0, 0) 1868 := zi_if_ne (off := 14) (t := 1879) (by decide +kernel : decode zY_172.2.1 1865 = .ok (.ifCond .ne 14, 3)) (by decide) (by decide +kernel)
theorem zf_zm_172_1043 (env : List (Nat × Nat)) : zI9 172 zY_172 zm_172 env (1868, 0, 3, 0, 0) 1869 := zi_aload_n (by decide +kernel : decode zY_172.2.1 1868 = .ok (.aload_n 3, 1)) rfl
theorem zf_zm_172_1044 (env : List (Nat × Nat)) : zI9 172 zY_172 zm_172 env (1869, 2, 0, 0, 0) 1870 := zi_iconst (by decide +kernel : decode zY_172.2.1 1869 = .ok (.iconst 0, 1)) (by decide +kernel)
theorem zf_zm_172_1045 (env : List (Nat × Nat)) : zI9 172 zY_172 zm_172 env (1870, 26, 0, 0, 0) 1871 := zi_lald (by decide +kernel : decode zY_172.2.1 1870 = .ok (.laload, 1))
theorem zf_zm_172_1046 (env : List (Nat × Nat)) : zI9 172 zY_172 zm_172 env (1871, 64, 6, 0, 0) 1873 := zi_lload (by decide +kernel : decode zY_172.2.1 1871 = .ok (.lload 6, 2))
theorem zf_zm_172_1047 (env : List (Nat × Nat)) : zI9 172 zY_172 zm_172 env (1873, 34, 0, 0, 0) 1874 := zi_lcmp (by decide +kernel : decode zY_172.2.1 1873 = .ok (.lcmp, 1))
theorem zf_zm_172_1048 (env : List (Nat × Nat)) : zI9 172 zY_172 zm_172 env (1874, 5, 1050, 0, 0) 1877 := zi_if_eq (off := 5) (t := 1879) (by decide +kernel : decode zY_172.2.1 1874 = .ok (.ifCond .eq 5, 3)) (by decide) (by decide +kernel)
theorem zf_zm_172_1049 (env : List (Nat × Nat)) : zI9 172 zY_172 zm_172 env (1877, 99, 0, 0, 0) 1879 := zi_none
theorem zf_zm_172_1050 (env : List (Nat × Nat)) : zI9 172 zY_172 zm_172 env (1879, 7, 1145, 0, 0) 1882 := zi_goto (off := 149) (t := 2028) (by decide +kernel : decode zY_172.2.1 1879 = .ok (.goto 149, 3)) (by decide) (by decide +kernel)
theorem zf_zm_172_1051 (env : List (Nat × Nat)) : zI9 172 zY_172 zm_172 env (1882, 0, 1, 0, 0) 1883 := zi_aload_n (by decide +kernel : decode zY_172.2.1 1882 = .ok (.aload_n 1, 1)) rfl
theorem zf_zm_172_1052 (env : List (Nat × Nat)) : zI9 172 zY_172 zm_172 env (1883, 0, 0, 0, 0) 1884 := zi_aload_n (by decide +kernel : decode zY_172.2.1 1883 = .ok (.aload_n 0, 1)) rfl
theorem zf_zm_172_1053 (env : List (Nat × Nat)) : zI9 172 zY_172 zm_172 env (1884, 63, 4, 0, 0) 1886 := zi_iload (by decide +kernel : decode zY_172.2.1 1884 = .ok (.iload 4, 2))
theorem zf_zm_172_1054 (env : List (Nat × Nat)) : zI9 172 zY_172 zm_172 env (1886, 2, 1, 0, 0) 1887 := zi_iconst (by decide +kernel : decode zY_172.2.1 1886 = .ok (.iconst 1, 1)) (by decide +kernel)
theorem zf_zm_172_1055 (env : List (Nat × Nat)) : zI9 172 zY_172 zm_172 env (1887, 9, 0, 0, 0) 1888 := zi_iadd (by decide +kernel : decode zY_172.2.1 1887 = .ok (.iadd, 1))
theorem zf_zm_172_1056 (env : List (Nat × Nat)) : zI9 172 zY_172 zm_172 env (1888, 8, 0, 0, 0) 1889 := zi_iald (zscr_ok (by decide +kernel : decode zY_172.2.1 1888 = .ok (.iaload, 1))) (by decide +kernel : decode zY_172.2.1 1888 = .ok (.iaload, 1))
theorem zf_zm_172_1057 (env : List (Nat × Nat)) : zI9 172 zY_172 zm_172 env (1889, 0, 0, 0, 0) 1890 := zi_aload_n (by decide +kernel : decode zY_172.2.1 1889 = .ok (.aload_n 0, 1)) rfl
theorem zf_zm_172_1058 (env : List (Nat × Nat)) : zI9 172 zY_172 zm_172 env (1890, 63, 4, 0, 0) 1892 := zi_iload (by decide +kernel : decode zY_172.2.1 1890 = .ok (.iload 4, 2))
theorem zf_zm_172_1059 (env : List (Nat × Nat)) : zI9 172 zY_172 zm_172 env (1892, 2, 2, 0, 0) 1893 := zi_iconst (by decide +kernel : decode zY_172.2.1 1892 = .ok (.iconst 2, 1)) (by decide +kernel)
theorem zf_zm_172_1060 (env : List (Nat × Nat)) : zI9 172 zY_172 zm_172 env (1893, 9, 0, 0, 0) 1894 := zi_iadd (by decide +kernel : decode zY_172.2.1 1893 = .ok (.iadd, 1))
theorem zf_zm_172_1061 (env : List (Nat × Nat)) : zI9 172 zY_172 zm_172 env (1894, 8, 0, 0, 0) 1895 := zi_iald (zscr_ok (by decide +kernel : decode zY_172.2.1 1894 = .ok (.iaload, 1))) (by decide +kernel : decode zY_172.2.1 1894 = .ok (.iaload, 1))
theorem zf_zm_172_1062 (env : List (Nat × Nat)) : zI9 172 zY_172 zm_172 env (1895, 0, 0, 0, 0) 1896 := zi_aload_n (by decide +kernel : decode zY_172.2.1 1895 = .ok (.aload_n 0, 1)) rfl
theorem zf_zm_172_1063 (env : List (Nat × Nat)) : zI9 172 zY_172 zm_172 env (1896, 63, 4, 0, 0) 1898 := zi_iload (by decide +kernel : decode zY_172.2.1 1896 = .ok (.iload 4, 2))
theorem zf_zm_172_1064 (env : List (Nat × Nat)) : zI9 172 zY_172 zm_172 env (1898, 2, 3, 0, 0) 1899 := zi_iconst (by decide +kernel : decode zY_172.2.1 1898 = .ok (.iconst 3, 1)) (by decide +kernel)
theorem zf_zm_172_1065 (env : List (Nat × Nat)) : zI9 172 zY_172 zm_172 env (1899, 9, 0, 0, 0) 1900 := zi_iadd (by decide +kernel : decode zY_172.2.1 1899 = .ok (.iadd, 1))
theorem zf_zm_172_1066 (env : List (Nat × Nat)) : zI9 172 zY_172 zm_172 env (1900, 8, 0, 0, 0) 1901 := zi_iald (zscr_ok (by decide +kernel : decode zY_172.2.1 1900 = .ok (.iaload, 1))) (by decide +kernel : decode zY_172.2.1 1900 = .ok (.iaload, 1))
theorem zf_zm_172_1067 (env : List (Nat × Nat)) : zI9 172 zY_172 zm_172 env (1901, 0, 3, 0, 0) 1902 := zi_aload_n (by decide +kernel : decode zY_172.2.1 1901 = .ok (.aload_n 3, 1)) rfl
theorem zf_zm_172_1068 (env : List (Nat × Nat)) : zC9 172 zm_172 env (1902, 66, 168, 326, 0) := zi_call (by decide +kernel) (zr_SW (i := 209) zX_ok rfl (zgood_168) (by decide +kernel) (zw_T zwd_781) (zw_T zwd_915) (zw_T zwd_916) ⟨by decide +kernel, by decide +kernel, by decide +kernel⟩ (by decide +kernel : decode (zYf 172).2.1 1902 = .ok (.invokestatic 209, 3)))
theorem zf_zm_172_1069 (env : List (Nat × Nat)) : zI9 172 zY_172 zm_172 env (1905, 10, 5, 0, 0) 1907 := zi_istore (by decide +kernel : decode zY_172.2.1 1905 = .ok (.istore 5, 2)) (by decide)
theorem zf_zm_172_1070 (env : List (Nat × Nat)) : zI9 172 zY_172 zm_172 env (1907, 0, 2, 0, 0) 1908 := zi_aload_n (by decide +kernel : decode zY_172.2.1 1907 = .ok (.aload_n 2, 1)) rfl
theorem zf_zm_172_1071 (env : List (Nat × Nat)) : zI9 172 zY_172 zm_172 env (1908, 0, 0, 0, 0) 1909 := zi_aload_n (by decide +kernel : decode zY_172.2.1 1908 = .ok (.aload_n 0, 1)) rfl
theorem zf_zm_172_1072 (env : List (Nat × Nat)) : zI9 172 zY_172 zm_172 env (1909, 63, 4, 0, 0) 1911 := zi_iload (by decide +kernel : decode zY_172.2.1 1909 = .ok (.iload 4, 2))
theorem zf_zm_172_1073 (env : List (Nat × Nat)) : zI9 172 zY_172 zm_172 env (1911, 2, 1, 0, 0) 1912 := zi_iconst (by decide +kernel : decode zY_172.2.1 1911 = .ok (.iconst 1, 1)) (by decide +kernel)
theorem zf_zm_172_1074 (env : List (Nat × Nat)) : zI9 172 zY_172 zm_172 env (1912, 9, 0, 0, 0) 1913 := zi_iadd (by decide +kernel : decode zY_172.2.1 1912 = .ok (.iadd, 1))
theorem zf_zm_172_1075 (env : List (Nat × Nat)) : zI9 172 zY_172 zm_172 env (1913, 8, 0, 0, 0) 1914 := zi_iald (zscr_ok (by decide +kernel : decode zY_172.2.1 1913 = .ok (.iaload, 1))) (by decide +kernel : decode zY_172.2.1 1913 = .ok (.iaload, 1))
theorem zf_zm_172_1076 (env : List (Nat × Nat)) : zI9 172 zY_172 zm_172 env (1914, 0, 0, 0, 0) 1915 := zi_aload_n (by decide +kernel : decode zY_172.2.1 1914 = .ok (.aload_n 0, 1)) rfl
theorem zf_zm_172_1077 (env : List (Nat × Nat)) : zI9 172 zY_172 zm_172 env (1915, 63, 4, 0, 0) 1917 := zi_iload (by decide +kernel : decode zY_172.2.1 1915 = .ok (.iload 4, 2))
theorem zf_zm_172_1078 (env : List (Nat × Nat)) : zI9 172 zY_172 zm_172 env (1917, 2, 2, 0, 0) 1918 := zi_iconst (by decide +kernel : decode zY_172.2.1 1917 = .ok (.iconst 2, 1)) (by decide +kernel)
theorem zf_zm_172_1079 (env : List (Nat × Nat)) : zI9 172 zY_172 zm_172 env (1918, 9, 0, 0, 0) 1919 := zi_iadd (by decide +kernel : decode zY_172.2.1 1918 = .ok (.iadd, 1))
theorem zf_zm_172_1080 (env : List (Nat × Nat)) : zI9 172 zY_172 zm_172 env (1919, 8, 0, 0, 0) 1920 := zi_iald (zscr_ok (by decide +kernel : decode zY_172.2.1 1919 = .ok (.iaload, 1))) (by decide +kernel : decode zY_172.2.1 1919 = .ok (.iaload, 1))
theorem zf_zm_172_1081 (env : List (Nat × Nat)) : zI9 172 zY_172 zm_172 env (1920, 0, 0, 0, 0) 1921 := zi_aload_n (by decide +kernel : decode zY_172.2.1 1920 = .ok (.aload_n 0, 1)) rfl
theorem zf_zm_172_1082 (env : List (Nat × Nat)) : zI9 172 zY_172 zm_172 env (1921, 63, 4, 0, 0) 1923 := zi_iload (by decide +kernel : decode zY_172.2.1 1921 = .ok (.iload 4, 2))
theorem zf_zm_172_1083 (env : List (Nat × Nat)) : zI9 172 zY_172 zm_172 env (1923, 2, 3, 0, 0) 1924 := zi_iconst (by decide +kernel : decode zY_172.2.1 1923 = .ok (.iconst 3, 1)) (by decide +kernel)
theorem zf_zm_172_1084 (env : List (Nat × Nat)) : zI9 172 zY_172 zm_172 env (1924, 9, 0, 0, 0) 1925 := zi_iadd (by decide +kernel : decode zY_172.2.1 1924 = .ok (.iadd, 1))
theorem zf_zm_172_1085 (env : List (Nat × Nat)) : zI9 172 zY_172 zm_172 env (1925, 8, 0, 0, 0) 1926 := zi_iald (zscr_ok (by decide +kernel : decode zY_172.2.1 1925 = .ok (.iaload, 1))) (by decide +kernel : decode zY_172.2.1 1925 = .ok (.iaload, 1))
theorem zf_zm_172_1086 (env : List (Nat × Nat)) : zC9 172 zm_172 env (1926, 66, 73, 260, 3) := zi_call (by decide +kernel) (zr_V (i := 211) (n := 3) (q := ("TransportPairModel", zF_1, 23)) zX_ok rfl (zgood_73) (by decide +kernel) (zw_T zwd_250) (zw_T zwd_917) (zw_T zwd_918) rfl (zw_T zwd_919) ⟨by decide +kernel, by decide +kernel, by decide +kernel⟩ rfl (by decide +kernel : decode (zYf 172).2.1 1926 = .ok (.invokevirtual 211, 3)))
theorem zf_zm_172_1087 (env : List (Nat × Nat)) : zI9 172 zY_172 zm_172 env (1929, 41, 6, 0, 0) 1931 := zi_lstore (by decide +kernel : decode zY_172.2.1 1929 = .ok (.lstore 6, 2)) (by decide)
theorem zf_zm_172_1088 (env : List (Nat × Nat)) : zI9 172 zY_172 zm_172 env (1931, 0, 2, 0, 0) 1932 := zi_aload_n (by decide +kernel : decode zY_172.2.1 1931 = .ok (.aload_n 2, 1)) rfl
theorem zf_zm_172_1089 (env : List (Nat × Nat)) : zC9 172 zm_172 env (1932, 66, 43, 65, 3) := zi_call (by decide +kernel) (zr_V (i := 122) (n := 0) (q := ("TransportPairModel", zF_1, 23)) zX_ok rfl (zgood_43) (by decide +kernel) (zw_T zwd_250) (zw_T zwd_787) (zw_T zwd_788) rfl (zw_T zwd_789) ⟨by decide +kernel, by decide +kernel, by decide +kernel⟩ rfl (by decide +kernel : decode (zYf 172).2.1 1932 = .ok (.invokevirtual 122, 3)))
theorem zf_zm_172_1090 (env : List (Nat × Nat)) : zI9 172 zY_172 zm_172 env (1935, 63, 5, 0, 0) 1937 := zi_iload (by decide +kernel : decode zY_172.2.1 1935 = .ok (.iload 5, 2))
theorem zf_zm_172_1091 (env : List (Nat × Nat)) : zI9 172 zY_172 zm_172 env (1937, 20, 1093, 0, 0) 1940 := zi_icmp_eq (off := 5) (t := 1942) (by decide +kernel : decode zY_172.2.1 1937 = .ok (.if_icmp .eq 5, 3)) (by decide) (by decide +kernel)
theorem zf_zm_172_1092 (env : List (Nat × Nat)) : zI9 172 zY_172 zm_172 env (1940, 99, 0, 0, 0) 1942 := zi_none
theorem zf_zm_172_1093 (env : List (Nat × Nat)) : zI9 172 zY_172 zm_172 env (1942, 63, 5, 0, 0) 1944 := zi_iload (by decide +kernel : decode zY_172.2.1 1942 = .ok (.iload 5, 2))
theorem zf_zm_172_1094 (env : List (Nat × Nat)) : zI9 172 zY_172 zm_172 env (1944, 6, 1102, 0, 0) 1947 := zi_if_ne (off := 14) (t := 1958) (by decide +kernel : decode zY_172.2.1 1944 = .ok (.ifCond .ne 14, 3)) (by decide) (by decide +kernel)
theorem zf_zm_172_1095 (env : List (Nat × Nat)) : zI9 172 zY_172 zm_172 env (1947, 0, 3, 0, 0) 1948 := zi_aload_n (by decide +kernel : decode zY_172.2.1 1947 = .ok (.aload_n 3, 1)) rfl
theorem zf_zm_172_1096 (env : List (Nat × Nat)) : zI9 172 zY_172 zm_172 env (1948, 2, 0, 0, 0) 1949 := zi_iconst (by decide +kernel : decode zY_172.2.1 1948 = .ok (.iconst 0, 1)) (by decide +kernel)
theorem zf_zm_172_1097 (env : List (Nat × Nat)) : zI9 172 zY_172 zm_172 env (1949, 26, 0, 0, 0) 1950 := zi_lald (by decide +kernel : decode zY_172.2.1 1949 = .ok (.laload, 1))
theorem zf_zm_172_1098 (env : List (Nat × Nat)) : zI9 172 zY_172 zm_172 env (1950, 64, 6, 0, 0) 1952 := zi_lload (by decide +kernel : decode zY_172.2.1 1950 = .ok (.lload 6, 2))
theorem zf_zm_172_1099 (env : List (Nat × Nat)) : zI9 172 zY_172 zm_172 env (1952, 34, 0, 0, 0) 1953 := zi_lcmp (by decide +kernel : decode zY_172.2.1 1952 = .ok (.lcmp, 1))
theorem zf_zm_172_1100 (env : List (Nat × Nat)) : zI9 172 zY_172 zm_172 env (1953, 5, 1102, 0, 0) 1956 := zi_if_eq (off := 5) (t := 1958) (by decide +kernel : decode zY_172.2.1 1953 = .ok (.ifCond .eq 5, 3)) (by decide) (by decide +kernel)
theorem zf_zm_172_1101 (env : List (Nat × Nat)) : zI9 172 zY_172 zm_172 env (1956, 99, 0, 0, 0) 1958 := zi_none
theorem zf_zm_172_1102 (env : List (Nat × Nat)) : zI9 172 zY_172 zm_172 env (1958, 7, 1145, 0, 0) 1961 := zi_goto (off := 70) (t := 2028) (by decide +kernel : decode zY_172.2.1 1958 = .ok (.goto 70, 3)) (by decide) (by decide +kernel)
theorem zf_zm_172_1103 (env : List (Nat × Nat)) : zI9 172 zY_172 zm_172 env (1961, 0, 1, 0, 0) 1962 := zi_aload_n (by decide +kernel : decode zY_172.2.1 1961 = .ok (.aload_n 1, 1)) rfl
theorem zf_zm_172_1104 (env : List (Nat × Nat)) : zI9 172 zY_172 zm_172 env (1962, 0, 0, 0, 0) 1963 := zi_aload_n (by decide +kernel : decode zY_172.2.1 1962 = .ok (.aload_n 0, 1)) rfl
theorem zf_zm_172_1105 (env : List (Nat × Nat)) : zI9 172 zY_172 zm_172 env (1963, 63, 4, 0, 0) 1965 := zi_iload (by decide +kernel : decode zY_172.2.1 1963 = .ok (.iload 4, 2))
theorem zf_zm_172_1106 (env : List (Nat × Nat)) : zI9 172 zY_172 zm_172 env (1965, 2, 1, 0, 0) 1966 := zi_iconst (by decide +kernel : decode zY_172.2.1 1965 = .ok (.iconst 1, 1)) (by decide +kernel)
theorem zf_zm_172_1107 (env : List (Nat × Nat)) : zI9 172 zY_172 zm_172 env (1966, 9, 0, 0, 0) 1967 := zi_iadd (by decide +kernel : decode zY_172.2.1 1966 = .ok (.iadd, 1))
theorem zf_zm_172_1108 (env : List (Nat × Nat)) : zI9 172 zY_172 zm_172 env (1967, 8, 0, 0, 0) 1968 := zi_iald (zscr_ok (by decide +kernel : decode zY_172.2.1 1967 = .ok (.iaload, 1))) (by decide +kernel : decode zY_172.2.1 1967 = .ok (.iaload, 1))
theorem zf_zm_172_1109 (env : List (Nat × Nat)) : zI9 172 zY_172 zm_172 env (1968, 0, 0, 0, 0) 1969 := zi_aload_n (by decide +kernel : decode zY_172.2.1 1968 = .ok (.aload_n 0, 1)) rfl
theorem zf_zm_172_1110 (env : List (Nat × Nat)) : zI9 172 zY_172 zm_172 env (1969, 63, 4, 0, 0) 1971 := zi_iload (by decide +kernel : decode zY_172.2.1 1969 = .ok (.iload 4, 2))
theorem zf_zm_172_1111 (env : List (Nat × Nat)) : zI9 172 zY_172 zm_172 env (1971, 2, 2, 0, 0) 1972 := zi_iconst (by decide +kernel : decode zY_172.2.1 1971 = .ok (.iconst 2, 1)) (by decide +kernel)
theorem zf_zm_172_1112 (env : List (Nat × Nat)) : zI9 172 zY_172 zm_172 env (1972, 9, 0, 0, 0) 1973 := zi_iadd (by decide +kernel : decode zY_172.2.1 1972 = .ok (.iadd, 1))
theorem zf_zm_172_1113 (env : List (Nat × Nat)) : zI9 172 zY_172 zm_172 env (1973, 8, 0, 0, 0) 1974 := zi_iald (zscr_ok (by decide +kernel : decode zY_172.2.1 1973 = .ok (.iaload, 1))) (by decide +kernel : decode zY_172.2.1 1973 = .ok (.iaload, 1))
theorem zf_zm_172_1114 (env : List (Nat × Nat)) : zI9 172 zY_172 zm_172 env (1974, 0, 3, 0, 0) 1975 := zi_aload_n (by decide +kernel : decode zY_172.2.1 1974 = .ok (.aload_n 3, 1)) rfl
theorem zf_zm_172_1115 (env : List (Nat × Nat)) : zC9 172 zm_172 env (1975, 66, 169, 261, 0) := zi_call (by decide +kernel) (zr_SW (i := 212) zX_ok rfl (zgood_169) (by decide +kernel) (zw_T zwd_781) (zw_T zwd_920) (zw_T zwd_921) ⟨by decide +kernel, by decide +kernel, by decide +kernel⟩ (by decide +kernel : decode (zYf 172).2.1 1975 = .ok (.invokestatic 212, 3)))
theorem zf_zm_172_1116 (env : List (Nat × Nat)) : zI9 172 zY_172 zm_172 env (1978, 10, 5, 0, 0) 1980 := zi_istore (by decide +kernel : decode zY_172.2.1 1978 = .ok (.istore 5, 2)) (by decide)
theorem zf_zm_172_1117 (env : List (Nat × Nat)) : zI9 172 zY_172 zm_172 env (1980, 0, 2, 0, 0) 1981 := zi_aload_n (by decide +kernel : decode zY_172.2.1 1980 = .ok (.aload_n 2, 1)) rfl
theorem zf_zm_172_1118 (env : List (Nat × Nat)) : zI9 172 zY_172 zm_172 env (1981, 0, 0, 0, 0) 1982 := zi_aload_n (by decide +kernel : decode zY_172.2.1 1981 = .ok (.aload_n 0, 1)) rfl
theorem zf_zm_172_1119 (env : List (Nat × Nat)) : zI9 172 zY_172 zm_172 env (1982, 63, 4, 0, 0) 1984 := zi_iload (by decide +kernel : decode zY_172.2.1 1982 = .ok (.iload 4, 2))
theorem zf_zm_172_1120 (env : List (Nat × Nat)) : zI9 172 zY_172 zm_172 env (1984, 2, 1, 0, 0) 1985 := zi_iconst (by decide +kernel : decode zY_172.2.1 1984 = .ok (.iconst 1, 1)) (by decide +kernel)
theorem zf_zm_172_1121 (env : List (Nat × Nat)) : zI9 172 zY_172 zm_172 env (1985, 9, 0, 0, 0) 1986 := zi_iadd (by decide +kernel : decode zY_172.2.1 1985 = .ok (.iadd, 1))
theorem zf_zm_172_1122 (env : List (Nat × Nat)) : zI9 172 zY_172 zm_172 env (1986, 8, 0, 0, 0) 1987 := zi_iald (zscr_ok (by decide +kernel : decode zY_172.2.1 1986 = .ok (.iaload, 1))) (by decide +kernel : decode zY_172.2.1 1986 = .ok (.iaload, 1))
theorem zf_zm_172_1123 (env : List (Nat × Nat)) : zI9 172 zY_172 zm_172 env (1987, 0, 0, 0, 0) 1988 := zi_aload_n (by decide +kernel : decode zY_172.2.1 1987 = .ok (.aload_n 0, 1)) rfl
theorem zf_zm_172_1124 (env : List (Nat × Nat)) : zI9 172 zY_172 zm_172 env (1988, 63, 4, 0, 0) 1990 := zi_iload (by decide +kernel : decode zY_172.2.1 1988 = .ok (.iload 4, 2))
theorem zf_zm_172_1125 (env : List (Nat × Nat)) : zI9 172 zY_172 zm_172 env (1990, 2, 2, 0, 0) 1991 := zi_iconst (by decide +kernel : decode zY_172.2.1 1990 = .ok (.iconst 2, 1)) (by decide +kernel)
theorem zf_zm_172_1126 (env : List (Nat × Nat)) : zI9 172 zY_172 zm_172 env (1991, 9, 0, 0, 0) 1992 := zi_iadd (by decide +kernel : decode zY_172.2.1 1991 = .ok (.iadd, 1))
theorem zf_zm_172_1127 (env : List (Nat × Nat)) : zI9 172 zY_172 zm_172 env (1992, 8, 0, 0, 0) 1993 := zi_iald (zscr_ok (by decide +kernel : decode zY_172.2.1 1992 = .ok (.iaload, 1))) (by decide +kernel : decode zY_172.2.1 1992 = .ok (.iaload, 1))
theorem zf_zm_172_1128 (env : List (Nat × Nat)) : zC9 172 zm_172 env (1993, 66, 74, 195, 3) := zi_call (by decide +kernel) (zr_V (i := 214) (n := 2) (q := ("TransportPairModel", zF_1, 23)) zX_ok rfl (zgood_74) (by decide +kernel) (zw_T zwd_250) (zw_T zwd_922) (zw_T zwd_923) rfl (zw_T zwd_924) ⟨by decide +kernel, by decide +kernel, by decide +kernel⟩ rfl (by decide +kernel : decode (zYf 172).2.1 1993 = .ok (.invokevirtual 214, 3)))
theorem zf_zm_172_1129 (env : List (Nat × Nat)) : zI9 172 zY_172 zm_172 env (1996, 41, 6, 0, 0) 1998 := zi_lstore (by decide +kernel : decode zY_172.2.1 1996 = .ok (.lstore 6, 2)) (by decide)
theorem zf_zm_172_1130 (env : List (Nat × Nat)) : zI9 172 zY_172 zm_172 env (1998, 0, 2, 0, 0) 1999 := zi_aload_n (by decide +kernel : decode zY_172.2.1 1998 = .ok (.aload_n 2, 1)) rfl
theorem zf_zm_172_1131 (env : List (Nat × Nat)) : zC9 172 zm_172 env (1999, 66, 43, 65, 3) := zi_call (by decide +kernel) (zr_V (i := 122) (n := 0) (q := ("TransportPairModel", zF_1, 23)) zX_ok rfl (zgood_43) (by decide +kernel) (zw_T zwd_250) (zw_T zwd_787) (zw_T zwd_788) rfl (zw_T zwd_789) ⟨by decide +kernel, by decide +kernel, by decide +kernel⟩ rfl (by decide +kernel : decode (zYf 172).2.1 1999 = .ok (.invokevirtual 122, 3)))
theorem zf_zm_172_1132 (env : List (Nat × Nat)) : zI9 172 zY_172 zm_172 env (2002, 63, 5, 0, 0) 2004 := zi_iload (by decide +kernel : decode zY_172.2.1 2002 = .ok (.iload 5, 2))
theorem zf_zm_172_1133 (env : List (Nat × Nat)) : zI9 172 zY_172 zm_172 env (2004, 20, 1135, 0, 0) 2007 := zi_icmp_eq (off := 5) (t := 2009) (by decide +kernel : decode zY_172.2.1 2004 = .ok (.if_icmp .eq 5, 3)) (by decide) (by decide +kernel)
theorem zf_zm_172_1134 (env : List (Nat × Nat)) : zI9 172 zY_172 zm_172 env (2007, 99, 0, 0, 0) 2009 := zi_none
theorem zf_zm_172_1135 (env : List (Nat × Nat)) : zI9 172 zY_172 zm_172 env (2009, 63, 5, 0, 0) 2011 := zi_iload (by decide +kernel : decode zY_172.2.1 2009 = .ok (.iload 5, 2))
theorem zf_zm_172_1136 (env : List (Nat × Nat)) : zI9 172 zY_172 zm_172 env (2011, 6, 1144, 0, 0) 2014 := zi_if_ne (off := 14) (t := 2025) (by decide +kernel : decode zY_172.2.1 2011 = .ok (.ifCond .ne 14, 3)) (by decide) (by decide +kernel)
theorem zf_zm_172_1137 (env : List (Nat × Nat)) : zI9 172 zY_172 zm_172 env (2014, 0, 3, 0, 0) 2015 := zi_aload_n (by decide +kernel : decode zY_172.2.1 2014 = .ok (.aload_n 3, 1)) rfl
theorem zf_zm_172_1138 (env : List (Nat × Nat)) : zI9 172 zY_172 zm_172 env (2015, 2, 0, 0, 0) 2016 := zi_iconst (by decide +kernel : decode zY_172.2.1 2015 = .ok (.iconst 0, 1)) (by decide +kernel)
theorem zf_zm_172_1139 (env : List (Nat × Nat)) : zI9 172 zY_172 zm_172 env (2016, 26, 0, 0, 0) 2017 := zi_lald (by decide +kernel : decode zY_172.2.1 2016 = .ok (.laload, 1))
theorem zf_zm_172_1140 (env : List (Nat × Nat)) : zI9 172 zY_172 zm_172 env (2017, 64, 6, 0, 0) 2019 := zi_lload (by decide +kernel : decode zY_172.2.1 2017 = .ok (.lload 6, 2))
theorem zf_zm_172_1141 (env : List (Nat × Nat)) : zI9 172 zY_172 zm_172 env (2019, 34, 0, 0, 0) 2020 := zi_lcmp (by decide +kernel : decode zY_172.2.1 2019 = .ok (.lcmp, 1))
theorem zf_zm_172_1142 (env : List (Nat × Nat)) : zI9 172 zY_172 zm_172 env (2020, 5, 1144, 0, 0) 2023 := zi_if_eq (off := 5) (t := 2025) (by decide +kernel : decode zY_172.2.1 2020 = .ok (.ifCond .eq 5, 3)) (by decide) (by decide +kernel)
theorem zf_zm_172_1143 (env : List (Nat × Nat)) : zI9 172 zY_172 zm_172 env (2023, 99, 0, 0, 0) 2025 := zi_none
theorem zf_zm_172_1144 (env : List (Nat × Nat)) : zI9 172 zY_172 zm_172 env (2025, 7, 1145, 0, 0) 2028 := zi_goto (off := 3) (t := 2028) (by decide +kernel : decode zY_172.2.1 2025 = .ok (.goto 3, 3)) (by decide) (by decide +kernel)
theorem zf_zm_172_1145 (env : List (Nat × Nat)) : zI9 172 zY_172 zm_172 env (2028, 35, 4, 6, 0) 2031 := zi_iinc (by decide +kernel : decode zY_172.2.1 2028 = .ok (.iinc 4 6, 3)) (by decide +kernel) (by decide)
theorem zf_zm_172_1146 (env : List (Nat × Nat)) : zI9 172 zY_172 zm_172 env (2031, 7, 0, 0, 0) 2034 := zi_goto (off := (-2008)) (t := 23) (by decide +kernel : decode zY_172.2.1 2031 = .ok (.goto (-2008), 3)) (by decide) (by decide +kernel)
theorem zf_zm_172_1147 (env : List (Nat × Nat)) : zI9 172 zY_172 zm_172 env (2034, 2, 1, 0, 0) 2035 := zi_iconst (by decide +kernel : decode zY_172.2.1 2034 = .ok (.iconst 1, 1)) (by decide +kernel)
theorem zf_zm_172_1148 (env : List (Nat × Nat)) : zR9 172 env (2035, 11, 3, 0, 0) := zi_zret (by decide +kernel : decode (zYf 172).2.1 2035 = .ok (.ireturn, 1)) rfl
set_option maxRecDepth 100000 in
theorem zc_zm_172 (env : List (Nat × Nat)) : zcode zX (z_QF zEX zcl zft) (z_zm zEX zX zWL zcl zft zYf) zYf zW zET zcl zft (zGv env) 172 zm_172 zm_172.1 := ⟨Or.inl ⟨25, zf_zm_172_0 env, zpc_c⟩,
  Or.inl ⟨26, zf_zm_172_1 env, zpc_c⟩,
  Or.inl ⟨27, zf_zm_172_2 env, zpc_c⟩,
  Or.inl ⟨29, zf_zm_172_3 env, zpc_c⟩,
  Or.inl ⟨30, zf_zm_172_4 env, zpc_c⟩,
  Or.inl ⟨33, zf_zm_172_5 env, zpc_c⟩,
  Or.inl ⟨34, zf_zm_172_6 env, zpc_c⟩,
  Or.inl ⟨36, zf_zm_172_7 env, zpc_c⟩,
  Or.inl ⟨37, zf_zm_172_8 env, zpc_c⟩,
  Or.inl ⟨39, zf_zm_172_9 env, zpc_c⟩,
  Or.inl ⟨40, zf_zm_172_10 env, zpc_c⟩,
  Or.inl ⟨168, zf_zm_172_11 env, zpc_c⟩,
  Or.inl ⟨169, zf_zm_172_12 env, zpc_c⟩,
  Or.inl ⟨170, zf_zm_172_13 env, zpc_c⟩,
  Or.inl ⟨172, zf_zm_172_14 env, zpc_c⟩,
  Or.inl ⟨173, zf_zm_172_15 env, zpc_c⟩,
  Or.inl ⟨174, zf_zm_172_16 env, zpc_c⟩,
  Or.inl ⟨175, zf_zm_172_17 env, zpc_c⟩,
  Or.inl ⟨176, zf_zm_172_18 env, zpc_c⟩,
  Or.inl ⟨178, zf_zm_172_19 env, zpc_c⟩,
  Or.inl ⟨179, zf_zm_172_20 env, zpc_c⟩,
  Or.inl ⟨180, zf_zm_172_21 env, zpc_c⟩,
  Or.inl ⟨181, zf_zm_172_22 env, zpc_c⟩,
  Or.inl ⟨182, zf_zm_172_23 env, zpc_c⟩,
  Or.inl ⟨184, zf_zm_172_24 env, zpc_c⟩,
  Or.inl ⟨185, zf_zm_172_25 env, zpc_c⟩,
  Or.inl ⟨186, zf_zm_172_26 env, zpc_c⟩,
  Or.inl ⟨187, zf_zm_172_27 env, zpc_c⟩,
  Or.inl ⟨188, zf_zm_172_28 env, zpc_c⟩,
  Or.inl ⟨190, zf_zm_172_29 env, zpc_c⟩,
  Or.inl ⟨191, zf_zm_172_30 env, zpc_c⟩,
  Or.inl ⟨192, zf_zm_172_31 env, zpc_c⟩,
  Or.inl ⟨193, zf_zm_172_32 env, zpc_c⟩,
  Or.inl ⟨194, zf_zm_172_33 env, zpc_c⟩,
  Or.inl ⟨196, zf_zm_172_34 env, zpc_c⟩,
  Or.inl ⟨197, zf_zm_172_35 env, zpc_c⟩,
  Or.inl ⟨198, zf_zm_172_36 env, zpc_c⟩,
  Or.inl ⟨199, zf_zm_172_37 env, zpc_c⟩,
  Or.inl ⟨200, zf_zm_172_38 env, zpc_c⟩,
  Or.inr (Or.inr (Or.inl ⟨zf_zm_172_39 env, zpc_c⟩)),
  Or.inl ⟨205, zf_zm_172_40 env, zpc_c⟩,
  Or.inl ⟨206, zf_zm_172_41 env, zpc_c⟩,
  Or.inl ⟨207, zf_zm_172_42 env, zpc_c⟩,
  Or.inl ⟨209, zf_zm_172_43 env, zpc_c⟩,
  Or.inl ⟨210, zf_zm_172_44 env, zpc_c⟩,
  Or.inl ⟨211, zf_zm_172_45 env, zpc_c⟩,
  Or.inl ⟨212, zf_zm_172_46 env, zpc_c⟩,
  Or.inl ⟨213, zf_zm_172_47 env, zpc_c⟩,
  Or.inl ⟨215, zf_zm_172_48 env, zpc_c⟩,
  Or.inl ⟨216, zf_zm_172_49 env, zpc_c⟩,
  Or.inl ⟨217, zf_zm_172_50 env, zpc_c⟩,
  Or.inl ⟨218, zf_zm_172_51 env, zpc_c⟩,
  Or.inl ⟨219, zf_zm_172_52 env, zpc_c⟩,
  Or.inl ⟨221, zf_zm_172_53 env, zpc_c⟩,
  Or.inl ⟨222, zf_zm_172_54 env, zpc_c⟩,
  Or.inl ⟨223, zf_zm_172_55 env, zpc_c⟩,
  Or.inl ⟨224, zf_zm_172_56 env, zpc_c⟩,
  Or.inl ⟨225, zf_zm_172_57 env, zpc_c⟩,
  Or.inl ⟨227, zf_zm_172_58 env, zpc_c⟩,
  Or.inl ⟨228, zf_zm_172_59 env, zpc_c⟩,
  Or.inl ⟨229, zf_zm_172_60 env, zpc_c⟩,
  Or.inl ⟨230, zf_zm_172_61 env, zpc_c⟩,
  Or.inl ⟨231, zf_zm_172_62 env, zpc_c⟩,
  Or.inl ⟨233, zf_zm_172_63 env, zpc_c⟩,
  Or.inl ⟨234, zf_zm_172_64 env, zpc_c⟩,
  Or.inl ⟨235, zf_zm_172_65 env, zpc_c⟩,
  Or.inl ⟨236, zf_zm_172_66 env, zpc_c⟩,
  Or.inr (Or.inr (Or.inl ⟨zf_zm_172_67 env, zpc_c⟩)),
  Or.inl ⟨241, zf_zm_172_68 env, zpc_c⟩,
  Or.inl ⟨242, zf_zm_172_69 env, zpc_c⟩,
  Or.inr (Or.inr (Or.inl ⟨zf_zm_172_70 env, zpc_c⟩)),
  Or.inl ⟨247, zf_zm_172_71 env, zpc_c⟩,
  Or.inl ⟨250, zf_zm_172_72 env, zpc_c⟩,
  Or.inl ⟨252, zf_zm_172_73 env, zpc_c⟩,
  Or.inl ⟨254, zf_zm_172_74 env, zpc_c⟩,
  Or.inl ⟨257, zf_zm_172_75 env, zpc_c⟩,
  Or.inl ⟨258, zf_zm_172_76 env, zpc_c⟩,
  Or.inl ⟨259, zf_zm_172_77 env, zpc_c⟩,
  Or.inl ⟨260, zf_zm_172_78 env, zpc_c⟩,
  Or.inl ⟨262, zf_zm_172_79 env, zpc_c⟩,
  Or.inl ⟨263, zf_zm_172_80 env, zpc_c⟩,
  Or.inl ⟨264, zf_zm_172_81 env, zpc_c⟩,
  Or.inl ⟨267, zf_zm_172_82 env, zpc_c⟩,
  Or.inl ⟨269, zf_zm_172_83 env, zpc_c⟩,
  Or.inl ⟨272, zf_zm_172_84 env, zpc_c⟩,
  Or.inl ⟨273, zf_zm_172_85 env, zpc_c⟩,
  Or.inl ⟨274, zf_zm_172_86 env, zpc_c⟩,
  Or.inl ⟨276, zf_zm_172_87 env, zpc_c⟩,
  Or.inl ⟨277, zf_zm_172_88 env, zpc_c⟩,
  Or.inl ⟨278, zf_zm_172_89 env, zpc_c⟩,
  Or.inl ⟨279, zf_zm_172_90 env, zpc_c⟩,
  Or.inl ⟨280, zf_zm_172_91 env, zpc_c⟩,
  Or.inr (Or.inr (Or.inl ⟨zf_zm_172_92 env, zpc_c⟩)),
  Or.inl ⟨285, zf_zm_172_93 env, zpc_c⟩,
  Or.inl ⟨286, zf_zm_172_94 env, zpc_c⟩,
  Or.inl ⟨287, zf_zm_172_95 env, zpc_c⟩,
  Or.inl ⟨289, zf_zm_172_96 env, zpc_c⟩,
  Or.inl ⟨290, zf_zm_172_97 env, zpc_c⟩,
  Or.inl ⟨291, zf_zm_172_98 env, zpc_c⟩,
  Or.inl ⟨292, zf_zm_172_99 env, zpc_c⟩,
  Or.inr (Or.inr (Or.inl ⟨zf_zm_172_100 env, zpc_c⟩)),
  Or.inl ⟨297, zf_zm_172_101 env, zpc_c⟩,
  Or.inl ⟨298, zf_zm_172_102 env, zpc_c⟩,
  Or.inr (Or.inr (Or.inl ⟨zf_zm_172_103 env, zpc_c⟩)),
  Or.inl ⟨303, zf_zm_172_104 env, zpc_c⟩,
  Or.inl ⟨306, zf_zm_172_105 env, zpc_c⟩,
  Or.inl ⟨308, zf_zm_172_106 env, zpc_c⟩,
  Or.inl ⟨310, zf_zm_172_107 env, zpc_c⟩,
  Or.inl ⟨313, zf_zm_172_108 env, zpc_c⟩,
  Or.inl ⟨314, zf_zm_172_109 env, zpc_c⟩,
  Or.inl ⟨315, zf_zm_172_110 env, zpc_c⟩,
  Or.inl ⟨316, zf_zm_172_111 env, zpc_c⟩,
  Or.inl ⟨318, zf_zm_172_112 env, zpc_c⟩,
  Or.inl ⟨319, zf_zm_172_113 env, zpc_c⟩,
  Or.inl ⟨320, zf_zm_172_114 env, zpc_c⟩,
  Or.inl ⟨323, zf_zm_172_115 env, zpc_c⟩,
  Or.inl ⟨325, zf_zm_172_116 env, zpc_c⟩,
  Or.inl ⟨328, zf_zm_172_117 env, zpc_c⟩,
  Or.inl ⟨329, zf_zm_172_118 env, zpc_c⟩,
  Or.inl ⟨330, zf_zm_172_119 env, zpc_c⟩,
  Or.inl ⟨332, zf_zm_172_120 env, zpc_c⟩,
  Or.inl ⟨333, zf_zm_172_121 env, zpc_c⟩,
  Or.inl ⟨334, zf_zm_172_122 env, zpc_c⟩,
  Or.inl ⟨335, zf_zm_172_123 env, zpc_c⟩,
  Or.inr (Or.inr (Or.inl ⟨zf_zm_172_124 env, zpc_c⟩)),
  Or.inl ⟨340, zf_zm_172_125 env, zpc_c⟩,
  Or.inl ⟨341, zf_zm_172_126 env, zpc_c⟩,
  Or.inl ⟨342, zf_zm_172_127 env, zpc_c⟩,
  Or.inl ⟨344, zf_zm_172_128 env, zpc_c⟩,
  Or.inl ⟨345, zf_zm_172_129 env, zpc_c⟩,
  Or.inl ⟨346, zf_zm_172_130 env, zpc_c⟩,
  Or.inl ⟨347, zf_zm_172_131 env, zpc_c⟩,
  Or.inr (Or.inr (Or.inl ⟨zf_zm_172_132 env, zpc_c⟩)),
  Or.inl ⟨351, zf_zm_172_133 env, zpc_c⟩,
  Or.inr (Or.inr (Or.inl ⟨zf_zm_172_134 env, zpc_c⟩)),
  Or.inl ⟨356, zf_zm_172_135 env, zpc_c⟩,
  Or.inl ⟨359, zf_zm_172_136 env, zpc_c⟩,
  Or.inl ⟨361, zf_zm_172_137 env, zpc_c⟩,
  Or.inl ⟨364, zf_zm_172_138 env, zpc_c⟩,
  Or.inl ⟨365, zf_zm_172_139 env, zpc_c⟩,
  Or.inl ⟨366, zf_zm_172_140 env, zpc_c⟩,
  Or.inl ⟨368, zf_zm_172_141 env, zpc_c⟩,
  Or.inl ⟨369, zf_zm_172_142 env, zpc_c⟩,
  Or.inl ⟨370, zf_zm_172_143 env, zpc_c⟩,
  Or.inl ⟨371, zf_zm_172_144 env, zpc_c⟩,
  Or.inr (Or.inr (Or.inl ⟨zf_zm_172_145 env, zpc_c⟩)),
  Or.inl ⟨376, zf_zm_172_146 env, zpc_c⟩,
  Or.inl ⟨377, zf_zm_172_147 env, zpc_c⟩,
  Or.inl ⟨378, zf_zm_172_148 env, zpc_c⟩,
  Or.inl ⟨380, zf_zm_172_149 env, zpc_c⟩,
  Or.inl ⟨381, zf_zm_172_150 env, zpc_c⟩,
  Or.inl ⟨382, zf_zm_172_151 env, zpc_c⟩,
  Or.inl ⟨383, zf_zm_172_152 env, zpc_c⟩,
  Or.inr (Or.inr (Or.inl ⟨zf_zm_172_153 env, zpc_c⟩)),
  Or.inl ⟨387, zf_zm_172_154 env, zpc_c⟩,
  Or.inr (Or.inr (Or.inl ⟨zf_zm_172_155 env, zpc_c⟩)),
  Or.inl ⟨392, zf_zm_172_156 env, zpc_c⟩,
  Or.inl ⟨395, zf_zm_172_157 env, zpc_c⟩,
  Or.inl ⟨397, zf_zm_172_158 env, zpc_c⟩,
  Or.inl ⟨400, zf_zm_172_159 env, zpc_c⟩,
  Or.inl ⟨401, zf_zm_172_160 env, zpc_c⟩,
  Or.inl ⟨402, zf_zm_172_161 env, zpc_c⟩,
  Or.inl ⟨404, zf_zm_172_162 env, zpc_c⟩,
  Or.inl ⟨405, zf_zm_172_163 env, zpc_c⟩,
  Or.inl ⟨406, zf_zm_172_164 env, zpc_c⟩,
  Or.inl ⟨407, zf_zm_172_165 env, zpc_c⟩,
  Or.inl ⟨408, zf_zm_172_166 env, zpc_c⟩,
  Or.inl ⟨410, zf_zm_172_167 env, zpc_c⟩,
  Or.inl ⟨411, zf_zm_172_168 env, zpc_c⟩,
  Or.inl ⟨412, zf_zm_172_169 env, zpc_c⟩,
  Or.inl ⟨413, zf_zm_172_170 env, zpc_c⟩,
  Or.inl ⟨414, zf_zm_172_171 env, zpc_c⟩,
  Or.inl ⟨416, zf_zm_172_172 env, zpc_c⟩,
  Or.inl ⟨417, zf_zm_172_173 env, zpc_c⟩,
  Or.inl ⟨418, zf_zm_172_174 env, zpc_c⟩,
  Or.inl ⟨419, zf_zm_172_175 env, zpc_c⟩,
  Or.inr (Or.inr (Or.inl ⟨zf_zm_172_176 env, zpc_c⟩)),
  Or.inl ⟨424, zf_zm_172_177 env, zpc_c⟩,
  Or.inl ⟨425, zf_zm_172_178 env, zpc_c⟩,
  Or.inl ⟨426, zf_zm_172_179 env, zpc_c⟩,
  Or.inl ⟨428, zf_zm_172_180 env, zpc_c⟩,
  Or.inl ⟨429, zf_zm_172_181 env, zpc_c⟩,
  Or.inl ⟨430, zf_zm_172_182 env, zpc_c⟩,
  Or.inl ⟨431, zf_zm_172_183 env, zpc_c⟩,
  Or.inl ⟨432, zf_zm_172_184 env, zpc_c⟩,
  Or.inl ⟨434, zf_zm_172_185 env, zpc_c⟩,
  Or.inl ⟨435, zf_zm_172_186 env, zpc_c⟩,
  Or.inl ⟨436, zf_zm_172_187 env, zpc_c⟩,
  Or.inl ⟨437, zf_zm_172_188 env, zpc_c⟩,
  Or.inl ⟨438, zf_zm_172_189 env, zpc_c⟩,
  Or.inl ⟨440, zf_zm_172_190 env, zpc_c⟩,
  Or.inl ⟨441, zf_zm_172_191 env, zpc_c⟩,
  Or.inl ⟨442, zf_zm_172_192 env, zpc_c⟩,
  Or.inl ⟨443, zf_zm_172_193 env, zpc_c⟩,
  Or.inr (Or.inr (Or.inl ⟨zf_zm_172_194 env, zpc_c⟩)),
  Or.inl ⟨447, zf_zm_172_195 env, zpc_c⟩,
  Or.inr (Or.inr (Or.inl ⟨zf_zm_172_196 env, zpc_c⟩)),
  Or.inl ⟨452, zf_zm_172_197 env, zpc_c⟩,
  Or.inl ⟨455, zf_zm_172_198 env, zpc_c⟩,
  Or.inl ⟨457, zf_zm_172_199 env, zpc_c⟩,
  Or.inl ⟨460, zf_zm_172_200 env, zpc_c⟩,
  Or.inl ⟨461, zf_zm_172_201 env, zpc_c⟩,
  Or.inr (Or.inr (Or.inl ⟨zf_zm_172_202 env, zpc_c⟩)),
  Or.inl ⟨466, zf_zm_172_203 env, zpc_c⟩,
  Or.inl ⟨467, zf_zm_172_204 env, zpc_c⟩,
  Or.inr (Or.inr (Or.inl ⟨zf_zm_172_205 env, zpc_c⟩)),
  Or.inl ⟨471, zf_zm_172_206 env, zpc_c⟩,
  Or.inr (Or.inr (Or.inl ⟨zf_zm_172_207 env, zpc_c⟩)),
  Or.inl ⟨476, zf_zm_172_208 env, zpc_c⟩,
  Or.inl ⟨479, zf_zm_172_209 env, zpc_c⟩,
  Or.inl ⟨481, zf_zm_172_210 env, zpc_c⟩,
  Or.inl ⟨484, zf_zm_172_211 env, zpc_c⟩,
  Or.inl ⟨485, zf_zm_172_212 env, zpc_c⟩,
  Or.inl ⟨486, zf_zm_172_213 env, zpc_c⟩,
  Or.inl ⟨488, zf_zm_172_214 env, zpc_c⟩,
  Or.inl ⟨489, zf_zm_172_215 env, zpc_c⟩,
  Or.inl ⟨490, zf_zm_172_216 env, zpc_c⟩,
  Or.inl ⟨491, zf_zm_172_217 env, zpc_c⟩,
  Or.inl ⟨492, zf_zm_172_218 env, zpc_c⟩,
  Or.inl ⟨494, zf_zm_172_219 env, zpc_c⟩,
  Or.inl ⟨495, zf_zm_172_220 env, zpc_c⟩,
  Or.inl ⟨496, zf_zm_172_221 env, zpc_c⟩,
  Or.inl ⟨497, zf_zm_172_222 env, zpc_c⟩,
  Or.inl ⟨500, zf_zm_172_223 env, zpc_c⟩,
  Or.inl ⟨501, zf_zm_172_224 env, zpc_c⟩,
  Or.inl ⟨504, zf_zm_172_225 env, zpc_c⟩,
  Or.inl ⟨505, zf_zm_172_226 env, zpc_c⟩,
  Or.inl ⟨506, zf_zm_172_227 env, zpc_c⟩,
  Or.inr (Or.inr (Or.inl ⟨zf_zm_172_228 env, zpc_c⟩)),
  Or.inl ⟨511, zf_zm_172_229 env, zpc_c⟩,
  Or.inl ⟨512, zf_zm_172_230 env, zpc_c⟩,
  Or.inl ⟨513, zf_zm_172_231 env, zpc_c⟩,
  Or.inl ⟨515, zf_zm_172_232 env, zpc_c⟩,
  Or.inl ⟨516, zf_zm_172_233 env, zpc_c⟩,
  Or.inl ⟨517, zf_zm_172_234 env, zpc_c⟩,
  Or.inl ⟨518, zf_zm_172_235 env, zpc_c⟩,
  Or.inl ⟨519, zf_zm_172_236 env, zpc_c⟩,
  Or.inl ⟨521, zf_zm_172_237 env, zpc_c⟩,
  Or.inl ⟨522, zf_zm_172_238 env, zpc_c⟩,
  Or.inl ⟨523, zf_zm_172_239 env, zpc_c⟩,
  Or.inl ⟨524, zf_zm_172_240 env, zpc_c⟩,
  Or.inl ⟨527, zf_zm_172_241 env, zpc_c⟩,
  Or.inl ⟨528, zf_zm_172_242 env, zpc_c⟩,
  Or.inl ⟨531, zf_zm_172_243 env, zpc_c⟩,
  Or.inl ⟨532, zf_zm_172_244 env, zpc_c⟩,
  Or.inr (Or.inr (Or.inl ⟨zf_zm_172_245 env, zpc_c⟩)),
  Or.inl ⟨537, zf_zm_172_246 env, zpc_c⟩,
  Or.inl ⟨538, zf_zm_172_247 env, zpc_c⟩,
  Or.inr (Or.inr (Or.inl ⟨zf_zm_172_248 env, zpc_c⟩)),
  Or.inl ⟨543, zf_zm_172_249 env, zpc_c⟩,
  Or.inl ⟨546, zf_zm_172_250 env, zpc_c⟩,
  Or.inl ⟨548, zf_zm_172_251 env, zpc_c⟩,
  Or.inl ⟨550, zf_zm_172_252 env, zpc_c⟩,
  Or.inl ⟨553, zf_zm_172_253 env, zpc_c⟩,
  Or.inl ⟨554, zf_zm_172_254 env, zpc_c⟩,
  Or.inl ⟨555, zf_zm_172_255 env, zpc_c⟩,
  Or.inl ⟨556, zf_zm_172_256 env, zpc_c⟩,
  Or.inl ⟨558, zf_zm_172_257 env, zpc_c⟩,
  Or.inl ⟨559, zf_zm_172_258 env, zpc_c⟩,
  Or.inl ⟨560, zf_zm_172_259 env, zpc_c⟩,
  Or.inl ⟨563, zf_zm_172_260 env, zpc_c⟩,
  Or.inl ⟨565, zf_zm_172_261 env, zpc_c⟩,
  Or.inl ⟨568, zf_zm_172_262 env, zpc_c⟩,
  Or.inl ⟨569, zf_zm_172_263 env, zpc_c⟩,
  Or.inl ⟨570, zf_zm_172_264 env, zpc_c⟩,
  Or.inl ⟨572, zf_zm_172_265 env, zpc_c⟩,
  Or.inl ⟨573, zf_zm_172_266 env, zpc_c⟩,
  Or.inl ⟨574, zf_zm_172_267 env, zpc_c⟩,
  Or.inl ⟨575, zf_zm_172_268 env, zpc_c⟩,
  Or.inl ⟨576, zf_zm_172_269 env, zpc_c⟩,
  Or.inl ⟨578, zf_zm_172_270 env, zpc_c⟩,
  Or.inl ⟨579, zf_zm_172_271 env, zpc_c⟩,
  Or.inl ⟨580, zf_zm_172_272 env, zpc_c⟩,
  Or.inl ⟨581, zf_zm_172_273 env, zpc_c⟩,
  Or.inl ⟨582, zf_zm_172_274 env, zpc_c⟩,
  Or.inr (Or.inr (Or.inl ⟨zf_zm_172_275 env, zpc_c⟩)),
  Or.inl ⟨587, zf_zm_172_276 env, zpc_c⟩,
  Or.inl ⟨588, zf_zm_172_277 env, zpc_c⟩,
  Or.inl ⟨589, zf_zm_172_278 env, zpc_c⟩,
  Or.inl ⟨591, zf_zm_172_279 env, zpc_c⟩,
  Or.inl ⟨592, zf_zm_172_280 env, zpc_c⟩,
  Or.inl ⟨593, zf_zm_172_281 env, zpc_c⟩,
  Or.inl ⟨594, zf_zm_172_282 env, zpc_c⟩,
  Or.inl ⟨595, zf_zm_172_283 env, zpc_c⟩,
  Or.inl ⟨597, zf_zm_172_284 env, zpc_c⟩,
  Or.inl ⟨598, zf_zm_172_285 env, zpc_c⟩,
  Or.inl ⟨599, zf_zm_172_286 env, zpc_c⟩,
  Or.inl ⟨600, zf_zm_172_287 env, zpc_c⟩,
  Or.inr (Or.inr (Or.inl ⟨zf_zm_172_288 env, zpc_c⟩)),
  Or.inl ⟨605, zf_zm_172_289 env, zpc_c⟩,
  Or.inl ⟨606, zf_zm_172_290 env, zpc_c⟩,
  Or.inr (Or.inr (Or.inl ⟨zf_zm_172_291 env, zpc_c⟩)),
  Or.inl ⟨611, zf_zm_172_292 env, zpc_c⟩,
  Or.inl ⟨614, zf_zm_172_293 env, zpc_c⟩,
  Or.inl ⟨616, zf_zm_172_294 env, zpc_c⟩,
  Or.inl ⟨618, zf_zm_172_295 env, zpc_c⟩,
  Or.inl ⟨621, zf_zm_172_296 env, zpc_c⟩,
  Or.inl ⟨622, zf_zm_172_297 env, zpc_c⟩,
  Or.inl ⟨623, zf_zm_172_298 env, zpc_c⟩,
  Or.inl ⟨624, zf_zm_172_299 env, zpc_c⟩,
  Or.inl ⟨626, zf_zm_172_300 env, zpc_c⟩,
  Or.inl ⟨627, zf_zm_172_301 env, zpc_c⟩,
  Or.inl ⟨628, zf_zm_172_302 env, zpc_c⟩,
  Or.inl ⟨631, zf_zm_172_303 env, zpc_c⟩,
  Or.inl ⟨633, zf_zm_172_304 env, zpc_c⟩,
  Or.inl ⟨636, zf_zm_172_305 env, zpc_c⟩,
  Or.inl ⟨637, zf_zm_172_306 env, zpc_c⟩,
  Or.inl ⟨638, zf_zm_172_307 env, zpc_c⟩,
  Or.inl ⟨640, zf_zm_172_308 env, zpc_c⟩,
  Or.inl ⟨641, zf_zm_172_309 env, zpc_c⟩,
  Or.inl ⟨642, zf_zm_172_310 env, zpc_c⟩,
  Or.inl ⟨643, zf_zm_172_311 env, zpc_c⟩,
  Or.inl ⟨644, zf_zm_172_312 env, zpc_c⟩,
  Or.inl ⟨646, zf_zm_172_313 env, zpc_c⟩,
  Or.inl ⟨647, zf_zm_172_314 env, zpc_c⟩,
  Or.inl ⟨648, zf_zm_172_315 env, zpc_c⟩,
  Or.inl ⟨649, zf_zm_172_316 env, zpc_c⟩,
  Or.inl ⟨650, zf_zm_172_317 env, zpc_c⟩,
  Or.inr (Or.inr (Or.inl ⟨zf_zm_172_318 env, zpc_c⟩)),
  Or.inl ⟨655, zf_zm_172_319 env, zpc_c⟩,
  Or.inl ⟨656, zf_zm_172_320 env, zpc_c⟩,
  Or.inl ⟨657, zf_zm_172_321 env, zpc_c⟩,
  Or.inl ⟨659, zf_zm_172_322 env, zpc_c⟩,
  Or.inl ⟨660, zf_zm_172_323 env, zpc_c⟩,
  Or.inl ⟨661, zf_zm_172_324 env, zpc_c⟩,
  Or.inl ⟨662, zf_zm_172_325 env, zpc_c⟩,
  Or.inl ⟨663, zf_zm_172_326 env, zpc_c⟩,
  Or.inl ⟨665, zf_zm_172_327 env, zpc_c⟩,
  Or.inl ⟨666, zf_zm_172_328 env, zpc_c⟩,
  Or.inl ⟨667, zf_zm_172_329 env, zpc_c⟩,
  Or.inl ⟨668, zf_zm_172_330 env, zpc_c⟩,
  Or.inr (Or.inr (Or.inl ⟨zf_zm_172_331 env, zpc_c⟩)),
  Or.inl ⟨673, zf_zm_172_332 env, zpc_c⟩,
  Or.inl ⟨674, zf_zm_172_333 env, zpc_c⟩,
  Or.inr (Or.inr (Or.inl ⟨zf_zm_172_334 env, zpc_c⟩)),
  Or.inl ⟨679, zf_zm_172_335 env, zpc_c⟩,
  Or.inl ⟨682, zf_zm_172_336 env, zpc_c⟩,
  Or.inl ⟨684, zf_zm_172_337 env, zpc_c⟩,
  Or.inl ⟨686, zf_zm_172_338 env, zpc_c⟩,
  Or.inl ⟨689, zf_zm_172_339 env, zpc_c⟩,
  Or.inl ⟨690, zf_zm_172_340 env, zpc_c⟩,
  Or.inl ⟨691, zf_zm_172_341 env, zpc_c⟩,
  Or.inl ⟨692, zf_zm_172_342 env, zpc_c⟩,
  Or.inl ⟨694, zf_zm_172_343 env, zpc_c⟩,
  Or.inl ⟨697, zf_zm_172_344 env, zpc_c⟩,
  Or.inl ⟨701, zf_zm_172_345 env, zpc_c⟩,
  Or.inl ⟨702, zf_zm_172_346 env, zpc_c⟩,
  Or.inl ⟨703, zf_zm_172_347 env, zpc_c⟩,
  Or.inl ⟨706, zf_zm_172_348 env, zpc_c⟩,
  Or.inl ⟨708, zf_zm_172_349 env, zpc_c⟩,
  Or.inl ⟨711, zf_zm_172_350 env, zpc_c⟩,
  Or.inl ⟨712, zf_zm_172_351 env, zpc_c⟩,
  Or.inl ⟨713, zf_zm_172_352 env, zpc_c⟩,
  Or.inl ⟨715, zf_zm_172_353 env, zpc_c⟩,
  Or.inl ⟨716, zf_zm_172_354 env, zpc_c⟩,
  Or.inl ⟨717, zf_zm_172_355 env, zpc_c⟩,
  Or.inl ⟨718, zf_zm_172_356 env, zpc_c⟩,
  Or.inl ⟨719, zf_zm_172_357 env, zpc_c⟩,
  Or.inl ⟨721, zf_zm_172_358 env, zpc_c⟩,
  Or.inl ⟨722, zf_zm_172_359 env, zpc_c⟩,
  Or.inl ⟨723, zf_zm_172_360 env, zpc_c⟩,
  Or.inl ⟨724, zf_zm_172_361 env, zpc_c⟩,
  Or.inl ⟨725, zf_zm_172_362 env, zpc_c⟩,
  Or.inl ⟨727, zf_zm_172_363 env, zpc_c⟩,
  Or.inl ⟨728, zf_zm_172_364 env, zpc_c⟩,
  Or.inl ⟨729, zf_zm_172_365 env, zpc_c⟩,
  Or.inl ⟨730, zf_zm_172_366 env, zpc_c⟩,
  Or.inl ⟨731, zf_zm_172_367 env, zpc_c⟩,
  Or.inr (Or.inr (Or.inl ⟨zf_zm_172_368 env, zpc_c⟩)),
  Or.inl ⟨736, zf_zm_172_369 env, zpc_c⟩,
  Or.inl ⟨737, zf_zm_172_370 env, zpc_c⟩,
  Or.inl ⟨738, zf_zm_172_371 env, zpc_c⟩,
  Or.inl ⟨740, zf_zm_172_372 env, zpc_c⟩,
  Or.inl ⟨741, zf_zm_172_373 env, zpc_c⟩,
  Or.inl ⟨742, zf_zm_172_374 env, zpc_c⟩,
  Or.inl ⟨743, zf_zm_172_375 env, zpc_c⟩,
  Or.inl ⟨744, zf_zm_172_376 env, zpc_c⟩,
  Or.inl ⟨746, zf_zm_172_377 env, zpc_c⟩,
  Or.inl ⟨747, zf_zm_172_378 env, zpc_c⟩,
  Or.inl ⟨748, zf_zm_172_379 env, zpc_c⟩,
  Or.inl ⟨749, zf_zm_172_380 env, zpc_c⟩,
  Or.inl ⟨750, zf_zm_172_381 env, zpc_c⟩,
  Or.inl ⟨752, zf_zm_172_382 env, zpc_c⟩,
  Or.inl ⟨753, zf_zm_172_383 env, zpc_c⟩,
  Or.inl ⟨754, zf_zm_172_384 env, zpc_c⟩,
  Or.inl ⟨755, zf_zm_172_385 env, zpc_c⟩,
  Or.inr (Or.inr (Or.inl ⟨zf_zm_172_386 env, zpc_c⟩)),
  Or.inl ⟨760, zf_zm_172_387 env, zpc_c⟩,
  Or.inl ⟨761, zf_zm_172_388 env, zpc_c⟩,
  Or.inr (Or.inr (Or.inl ⟨zf_zm_172_389 env, zpc_c⟩)),
  Or.inl ⟨766, zf_zm_172_390 env, zpc_c⟩,
  Or.inl ⟨769, zf_zm_172_391 env, zpc_c⟩,
  Or.inl ⟨771, zf_zm_172_392 env, zpc_c⟩,
  Or.inl ⟨773, zf_zm_172_393 env, zpc_c⟩,
  Or.inl ⟨776, zf_zm_172_394 env, zpc_c⟩,
  Or.inl ⟨777, zf_zm_172_395 env, zpc_c⟩,
  Or.inl ⟨778, zf_zm_172_396 env, zpc_c⟩,
  Or.inl ⟨779, zf_zm_172_397 env, zpc_c⟩,
  Or.inl ⟨781, zf_zm_172_398 env, zpc_c⟩,
  Or.inl ⟨784, zf_zm_172_399 env, zpc_c⟩,
  Or.inl ⟨788, zf_zm_172_400 env, zpc_c⟩,
  Or.inl ⟨789, zf_zm_172_401 env, zpc_c⟩,
  Or.inl ⟨790, zf_zm_172_402 env, zpc_c⟩,
  Or.inl ⟨793, zf_zm_172_403 env, zpc_c⟩,
  Or.inl ⟨795, zf_zm_172_404 env, zpc_c⟩,
  Or.inl ⟨798, zf_zm_172_405 env, zpc_c⟩,
  Or.inl ⟨799, zf_zm_172_406 env, zpc_c⟩,
  Or.inl ⟨800, zf_zm_172_407 env, zpc_c⟩,
  Or.inl ⟨802, zf_zm_172_408 env, zpc_c⟩,
  Or.inl ⟨803, zf_zm_172_409 env, zpc_c⟩,
  Or.inl ⟨804, zf_zm_172_410 env, zpc_c⟩,
  Or.inl ⟨805, zf_zm_172_411 env, zpc_c⟩,
  Or.inl ⟨806, zf_zm_172_412 env, zpc_c⟩,
  Or.inl ⟨808, zf_zm_172_413 env, zpc_c⟩,
  Or.inl ⟨809, zf_zm_172_414 env, zpc_c⟩,
  Or.inl ⟨810, zf_zm_172_415 env, zpc_c⟩,
  Or.inl ⟨811, zf_zm_172_416 env, zpc_c⟩,
  Or.inl ⟨812, zf_zm_172_417 env, zpc_c⟩,
  Or.inl ⟨814, zf_zm_172_418 env, zpc_c⟩,
  Or.inl ⟨815, zf_zm_172_419 env, zpc_c⟩,
  Or.inl ⟨816, zf_zm_172_420 env, zpc_c⟩,
  Or.inl ⟨817, zf_zm_172_421 env, zpc_c⟩,
  Or.inl ⟨818, zf_zm_172_422 env, zpc_c⟩,
  Or.inr (Or.inr (Or.inl ⟨zf_zm_172_423 env, zpc_c⟩)),
  Or.inl ⟨823, zf_zm_172_424 env, zpc_c⟩,
  Or.inl ⟨824, zf_zm_172_425 env, zpc_c⟩,
  Or.inl ⟨825, zf_zm_172_426 env, zpc_c⟩,
  Or.inl ⟨827, zf_zm_172_427 env, zpc_c⟩,
  Or.inl ⟨828, zf_zm_172_428 env, zpc_c⟩,
  Or.inl ⟨829, zf_zm_172_429 env, zpc_c⟩,
  Or.inl ⟨830, zf_zm_172_430 env, zpc_c⟩,
  Or.inl ⟨831, zf_zm_172_431 env, zpc_c⟩,
  Or.inl ⟨833, zf_zm_172_432 env, zpc_c⟩,
  Or.inl ⟨834, zf_zm_172_433 env, zpc_c⟩,
  Or.inl ⟨835, zf_zm_172_434 env, zpc_c⟩,
  Or.inl ⟨836, zf_zm_172_435 env, zpc_c⟩,
  Or.inl ⟨837, zf_zm_172_436 env, zpc_c⟩,
  Or.inl ⟨839, zf_zm_172_437 env, zpc_c⟩,
  Or.inl ⟨840, zf_zm_172_438 env, zpc_c⟩,
  Or.inl ⟨841, zf_zm_172_439 env, zpc_c⟩,
  Or.inl ⟨842, zf_zm_172_440 env, zpc_c⟩,
  Or.inr (Or.inr (Or.inl ⟨zf_zm_172_441 env, zpc_c⟩)),
  Or.inl ⟨847, zf_zm_172_442 env, zpc_c⟩,
  Or.inl ⟨848, zf_zm_172_443 env, zpc_c⟩,
  Or.inr (Or.inr (Or.inl ⟨zf_zm_172_444 env, zpc_c⟩)),
  Or.inl ⟨853, zf_zm_172_445 env, zpc_c⟩,
  Or.inl ⟨856, zf_zm_172_446 env, zpc_c⟩,
  Or.inl ⟨858, zf_zm_172_447 env, zpc_c⟩,
  Or.inl ⟨860, zf_zm_172_448 env, zpc_c⟩,
  Or.inl ⟨863, zf_zm_172_449 env, zpc_c⟩,
  Or.inl ⟨864, zf_zm_172_450 env, zpc_c⟩,
  Or.inl ⟨865, zf_zm_172_451 env, zpc_c⟩,
  Or.inl ⟨866, zf_zm_172_452 env, zpc_c⟩,
  Or.inl ⟨868, zf_zm_172_453 env, zpc_c⟩,
  Or.inl ⟨871, zf_zm_172_454 env, zpc_c⟩,
  Or.inl ⟨875, zf_zm_172_455 env, zpc_c⟩,
  Or.inl ⟨876, zf_zm_172_456 env, zpc_c⟩,
  Or.inl ⟨877, zf_zm_172_457 env, zpc_c⟩,
  Or.inl ⟨880, zf_zm_172_458 env, zpc_c⟩,
  Or.inl ⟨882, zf_zm_172_459 env, zpc_c⟩,
  Or.inl ⟨885, zf_zm_172_460 env, zpc_c⟩,
  Or.inl ⟨886, zf_zm_172_461 env, zpc_c⟩,
  Or.inl ⟨887, zf_zm_172_462 env, zpc_c⟩,
  Or.inl ⟨889, zf_zm_172_463 env, zpc_c⟩,
  Or.inl ⟨890, zf_zm_172_464 env, zpc_c⟩,
  Or.inl ⟨891, zf_zm_172_465 env, zpc_c⟩,
  Or.inl ⟨892, zf_zm_172_466 env, zpc_c⟩,
  Or.inl ⟨893, zf_zm_172_467 env, zpc_c⟩,
  Or.inl ⟨895, zf_zm_172_468 env, zpc_c⟩,
  Or.inl ⟨896, zf_zm_172_469 env, zpc_c⟩,
  Or.inl ⟨897, zf_zm_172_470 env, zpc_c⟩,
  Or.inl ⟨898, zf_zm_172_471 env, zpc_c⟩,
  Or.inl ⟨899, zf_zm_172_472 env, zpc_c⟩,
  Or.inl ⟨901, zf_zm_172_473 env, zpc_c⟩,
  Or.inl ⟨902, zf_zm_172_474 env, zpc_c⟩,
  Or.inl ⟨903, zf_zm_172_475 env, zpc_c⟩,
  Or.inl ⟨904, zf_zm_172_476 env, zpc_c⟩,
  Or.inl ⟨905, zf_zm_172_477 env, zpc_c⟩,
  Or.inr (Or.inr (Or.inl ⟨zf_zm_172_478 env, zpc_c⟩)),
  Or.inl ⟨910, zf_zm_172_479 env, zpc_c⟩,
  Or.inl ⟨911, zf_zm_172_480 env, zpc_c⟩,
  Or.inl ⟨912, zf_zm_172_481 env, zpc_c⟩,
  Or.inl ⟨914, zf_zm_172_482 env, zpc_c⟩,
  Or.inl ⟨915, zf_zm_172_483 env, zpc_c⟩,
  Or.inl ⟨916, zf_zm_172_484 env, zpc_c⟩,
  Or.inl ⟨917, zf_zm_172_485 env, zpc_c⟩,
  Or.inl ⟨918, zf_zm_172_486 env, zpc_c⟩,
  Or.inl ⟨920, zf_zm_172_487 env, zpc_c⟩,
  Or.inl ⟨921, zf_zm_172_488 env, zpc_c⟩,
  Or.inl ⟨922, zf_zm_172_489 env, zpc_c⟩,
  Or.inl ⟨923, zf_zm_172_490 env, zpc_c⟩,
  Or.inl ⟨924, zf_zm_172_491 env, zpc_c⟩,
  Or.inl ⟨926, zf_zm_172_492 env, zpc_c⟩,
  Or.inl ⟨927, zf_zm_172_493 env, zpc_c⟩,
  Or.inl ⟨928, zf_zm_172_494 env, zpc_c⟩,
  Or.inl ⟨929, zf_zm_172_495 env, zpc_c⟩,
  Or.inr (Or.inr (Or.inl ⟨zf_zm_172_496 env, zpc_c⟩)),
  Or.inl ⟨934, zf_zm_172_497 env, zpc_c⟩,
  Or.inl ⟨935, zf_zm_172_498 env, zpc_c⟩,
  Or.inr (Or.inr (Or.inl ⟨zf_zm_172_499 env, zpc_c⟩)),
  Or.inl ⟨940, zf_zm_172_500 env, zpc_c⟩,
  Or.inl ⟨943, zf_zm_172_501 env, zpc_c⟩,
  Or.inl ⟨945, zf_zm_172_502 env, zpc_c⟩,
  Or.inl ⟨947, zf_zm_172_503 env, zpc_c⟩,
  Or.inl ⟨950, zf_zm_172_504 env, zpc_c⟩,
  Or.inl ⟨951, zf_zm_172_505 env, zpc_c⟩,
  Or.inl ⟨952, zf_zm_172_506 env, zpc_c⟩,
  Or.inl ⟨953, zf_zm_172_507 env, zpc_c⟩,
  Or.inl ⟨955, zf_zm_172_508 env, zpc_c⟩,
  Or.inl ⟨956, zf_zm_172_509 env, zpc_c⟩,
  Or.inl ⟨957, zf_zm_172_510 env, zpc_c⟩,
  Or.inl ⟨960, zf_zm_172_511 env, zpc_c⟩,
  Or.inl ⟨962, zf_zm_172_512 env, zpc_c⟩,
  Or.inl ⟨965, zf_zm_172_513 env, zpc_c⟩,
  Or.inl ⟨966, zf_zm_172_514 env, zpc_c⟩,
  Or.inl ⟨967, zf_zm_172_515 env, zpc_c⟩,
  Or.inl ⟨969, zf_zm_172_516 env, zpc_c⟩,
  Or.inl ⟨970, zf_zm_172_517 env, zpc_c⟩,
  Or.inl ⟨971, zf_zm_172_518 env, zpc_c⟩,
  Or.inl ⟨972, zf_zm_172_519 env, zpc_c⟩,
  Or.inl ⟨973, zf_zm_172_520 env, zpc_c⟩,
  Or.inr (Or.inr (Or.inl ⟨zf_zm_172_521 env, zpc_c⟩)),
  Or.inl ⟨978, zf_zm_172_522 env, zpc_c⟩,
  Or.inl ⟨979, zf_zm_172_523 env, zpc_c⟩,
  Or.inl ⟨980, zf_zm_172_524 env, zpc_c⟩,
  Or.inl ⟨982, zf_zm_172_525 env, zpc_c⟩,
  Or.inl ⟨983, zf_zm_172_526 env, zpc_c⟩,
  Or.inl ⟨984, zf_zm_172_527 env, zpc_c⟩,
  Or.inl ⟨985, zf_zm_172_528 env, zpc_c⟩,
  Or.inr (Or.inr (Or.inl ⟨zf_zm_172_529 env, zpc_c⟩)),
  Or.inl ⟨990, zf_zm_172_530 env, zpc_c⟩,
  Or.inl ⟨991, zf_zm_172_531 env, zpc_c⟩,
  Or.inr (Or.inr (Or.inl ⟨zf_zm_172_532 env, zpc_c⟩)),
  Or.inl ⟨996, zf_zm_172_533 env, zpc_c⟩,
  Or.inl ⟨999, zf_zm_172_534 env, zpc_c⟩,
  Or.inl ⟨1001, zf_zm_172_535 env, zpc_c⟩,
  Or.inl ⟨1003, zf_zm_172_536 env, zpc_c⟩,
  Or.inl ⟨1006, zf_zm_172_537 env, zpc_c⟩,
  Or.inl ⟨1017, zf_zm_172_538 env, zpc_c⟩,
  Or.inl ⟨1020, zf_zm_172_539 env, zpc_c⟩,
  Or.inl ⟨1021, zf_zm_172_540 env, zpc_c⟩,
  Or.inl ⟨1022, zf_zm_172_541 env, zpc_c⟩,
  Or.inl ⟨1024, zf_zm_172_542 env, zpc_c⟩,
  Or.inl ⟨1025, zf_zm_172_543 env, zpc_c⟩,
  Or.inl ⟨1026, zf_zm_172_544 env, zpc_c⟩,
  Or.inl ⟨1027, zf_zm_172_545 env, zpc_c⟩,
  Or.inl ⟨1028, zf_zm_172_546 env, zpc_c⟩,
  Or.inl ⟨1030, zf_zm_172_547 env, zpc_c⟩,
  Or.inl ⟨1031, zf_zm_172_548 env, zpc_c⟩,
  Or.inl ⟨1032, zf_zm_172_549 env, zpc_c⟩,
  Or.inl ⟨1033, zf_zm_172_550 env, zpc_c⟩,
  Or.inl ⟨1034, zf_zm_172_551 env, zpc_c⟩,
  Or.inr (Or.inr (Or.inl ⟨zf_zm_172_552 env, zpc_c⟩)),
  Or.inl ⟨1039, zf_zm_172_553 env, zpc_c⟩,
  Or.inl ⟨1040, zf_zm_172_554 env, zpc_c⟩,
  Or.inl ⟨1041, zf_zm_172_555 env, zpc_c⟩,
  Or.inl ⟨1043, zf_zm_172_556 env, zpc_c⟩,
  Or.inl ⟨1044, zf_zm_172_557 env, zpc_c⟩,
  Or.inl ⟨1045, zf_zm_172_558 env, zpc_c⟩,
  Or.inl ⟨1046, zf_zm_172_559 env, zpc_c⟩,
  Or.inl ⟨1047, zf_zm_172_560 env, zpc_c⟩,
  Or.inl ⟨1049, zf_zm_172_561 env, zpc_c⟩,
  Or.inl ⟨1050, zf_zm_172_562 env, zpc_c⟩,
  Or.inl ⟨1051, zf_zm_172_563 env, zpc_c⟩,
  Or.inl ⟨1052, zf_zm_172_564 env, zpc_c⟩,
  Or.inr (Or.inr (Or.inl ⟨zf_zm_172_565 env, zpc_c⟩)),
  Or.inl ⟨1057, zf_zm_172_566 env, zpc_c⟩,
  Or.inl ⟨1058, zf_zm_172_567 env, zpc_c⟩,
  Or.inr (Or.inr (Or.inl ⟨zf_zm_172_568 env, zpc_c⟩)),
  Or.inl ⟨1063, zf_zm_172_569 env, zpc_c⟩,
  Or.inl ⟨1066, zf_zm_172_570 env, zpc_c⟩,
  Or.inl ⟨1068, zf_zm_172_571 env, zpc_c⟩,
  Or.inl ⟨1070, zf_zm_172_572 env, zpc_c⟩,
  Or.inl ⟨1073, zf_zm_172_573 env, zpc_c⟩,
  Or.inl ⟨1074, zf_zm_172_574 env, zpc_c⟩,
  Or.inl ⟨1075, zf_zm_172_575 env, zpc_c⟩,
  Or.inl ⟨1076, zf_zm_172_576 env, zpc_c⟩,
  Or.inl ⟨1078, zf_zm_172_577 env, zpc_c⟩,
  Or.inl ⟨1081, zf_zm_172_578 env, zpc_c⟩,
  Or.inl ⟨1085, zf_zm_172_579 env, zpc_c⟩,
  Or.inl ⟨1086, zf_zm_172_580 env, zpc_c⟩,
  Or.inl ⟨1087, zf_zm_172_581 env, zpc_c⟩,
  Or.inl ⟨1090, zf_zm_172_582 env, zpc_c⟩,
  Or.inl ⟨1092, zf_zm_172_583 env, zpc_c⟩,
  Or.inl ⟨1095, zf_zm_172_584 env, zpc_c⟩,
  Or.inl ⟨1096, zf_zm_172_585 env, zpc_c⟩,
  Or.inl ⟨1097, zf_zm_172_586 env, zpc_c⟩,
  Or.inl ⟨1099, zf_zm_172_587 env, zpc_c⟩,
  Or.inl ⟨1100, zf_zm_172_588 env, zpc_c⟩,
  Or.inl ⟨1101, zf_zm_172_589 env, zpc_c⟩,
  Or.inl ⟨1102, zf_zm_172_590 env, zpc_c⟩,
  Or.inr (Or.inr (Or.inl ⟨zf_zm_172_591 env, zpc_c⟩)),
  Or.inl ⟨1107, zf_zm_172_592 env, zpc_c⟩,
  Or.inl ⟨1108, zf_zm_172_593 env, zpc_c⟩,
  Or.inl ⟨1109, zf_zm_172_594 env, zpc_c⟩,
  Or.inl ⟨1111, zf_zm_172_595 env, zpc_c⟩,
  Or.inl ⟨1112, zf_zm_172_596 env, zpc_c⟩,
  Or.inl ⟨1113, zf_zm_172_597 env, zpc_c⟩,
  Or.inl ⟨1114, zf_zm_172_598 env, zpc_c⟩,
  Or.inr (Or.inr (Or.inl ⟨zf_zm_172_599 env, zpc_c⟩)),
  Or.inl ⟨1118, zf_zm_172_600 env, zpc_c⟩,
  Or.inr (Or.inr (Or.inl ⟨zf_zm_172_601 env, zpc_c⟩)),
  Or.inl ⟨1123, zf_zm_172_602 env, zpc_c⟩,
  Or.inl ⟨1126, zf_zm_172_603 env, zpc_c⟩,
  Or.inl ⟨1128, zf_zm_172_604 env, zpc_c⟩,
  Or.inl ⟨1131, zf_zm_172_605 env, zpc_c⟩,
  Or.inl ⟨1132, zf_zm_172_606 env, zpc_c⟩,
  Or.inl ⟨1133, zf_zm_172_607 env, zpc_c⟩,
  Or.inl ⟨1135, zf_zm_172_608 env, zpc_c⟩,
  Or.inl ⟨1136, zf_zm_172_609 env, zpc_c⟩,
  Or.inl ⟨1137, zf_zm_172_610 env, zpc_c⟩,
  Or.inl ⟨1138, zf_zm_172_611 env, zpc_c⟩,
  Or.inl ⟨1139, zf_zm_172_612 env, zpc_c⟩,
  Or.inl ⟨1141, zf_zm_172_613 env, zpc_c⟩,
  Or.inl ⟨1142, zf_zm_172_614 env, zpc_c⟩,
  Or.inl ⟨1143, zf_zm_172_615 env, zpc_c⟩,
  Or.inl ⟨1144, zf_zm_172_616 env, zpc_c⟩,
  Or.inl ⟨1145, zf_zm_172_617 env, zpc_c⟩,
  Or.inr (Or.inr (Or.inl ⟨zf_zm_172_618 env, zpc_c⟩)),
  Or.inl ⟨1150, zf_zm_172_619 env, zpc_c⟩,
  Or.inl ⟨1151, zf_zm_172_620 env, zpc_c⟩,
  Or.inl ⟨1152, zf_zm_172_621 env, zpc_c⟩,
  Or.inl ⟨1154, zf_zm_172_622 env, zpc_c⟩,
  Or.inl ⟨1155, zf_zm_172_623 env, zpc_c⟩,
  Or.inl ⟨1156, zf_zm_172_624 env, zpc_c⟩,
  Or.inl ⟨1157, zf_zm_172_625 env, zpc_c⟩,
  Or.inl ⟨1158, zf_zm_172_626 env, zpc_c⟩,
  Or.inl ⟨1160, zf_zm_172_627 env, zpc_c⟩,
  Or.inl ⟨1161, zf_zm_172_628 env, zpc_c⟩,
  Or.inl ⟨1162, zf_zm_172_629 env, zpc_c⟩,
  Or.inl ⟨1163, zf_zm_172_630 env, zpc_c⟩,
  Or.inr (Or.inr (Or.inl ⟨zf_zm_172_631 env, zpc_c⟩)),
  Or.inl ⟨1168, zf_zm_172_632 env, zpc_c⟩,
  Or.inl ⟨1169, zf_zm_172_633 env, zpc_c⟩,
  Or.inr (Or.inr (Or.inl ⟨zf_zm_172_634 env, zpc_c⟩)),
  Or.inl ⟨1174, zf_zm_172_635 env, zpc_c⟩,
  Or.inl ⟨1177, zf_zm_172_636 env, zpc_c⟩,
  Or.inl ⟨1179, zf_zm_172_637 env, zpc_c⟩,
  Or.inl ⟨1181, zf_zm_172_638 env, zpc_c⟩,
  Or.inl ⟨1184, zf_zm_172_639 env, zpc_c⟩,
  Or.inl ⟨1196, zf_zm_172_640 env, zpc_c⟩,
  Or.inl ⟨1199, zf_zm_172_641 env, zpc_c⟩,
  Or.inl ⟨1200, zf_zm_172_642 env, zpc_c⟩,
  Or.inl ⟨1201, zf_zm_172_643 env, zpc_c⟩,
  Or.inl ⟨1203, zf_zm_172_644 env, zpc_c⟩,
  Or.inl ⟨1204, zf_zm_172_645 env, zpc_c⟩,
  Or.inl ⟨1205, zf_zm_172_646 env, zpc_c⟩,
  Or.inl ⟨1206, zf_zm_172_647 env, zpc_c⟩,
  Or.inl ⟨1207, zf_zm_172_648 env, zpc_c⟩,
  Or.inl ⟨1209, zf_zm_172_649 env, zpc_c⟩,
  Or.inl ⟨1210, zf_zm_172_650 env, zpc_c⟩,
  Or.inl ⟨1211, zf_zm_172_651 env, zpc_c⟩,
  Or.inl ⟨1212, zf_zm_172_652 env, zpc_c⟩,
  Or.inl ⟨1213, zf_zm_172_653 env, zpc_c⟩,
  Or.inr (Or.inr (Or.inl ⟨zf_zm_172_654 env, zpc_c⟩)),
  Or.inl ⟨1218, zf_zm_172_655 env, zpc_c⟩,
  Or.inl ⟨1219, zf_zm_172_656 env, zpc_c⟩,
  Or.inl ⟨1220, zf_zm_172_657 env, zpc_c⟩,
  Or.inl ⟨1222, zf_zm_172_658 env, zpc_c⟩,
  Or.inl ⟨1223, zf_zm_172_659 env, zpc_c⟩,
  Or.inl ⟨1224, zf_zm_172_660 env, zpc_c⟩,
  Or.inl ⟨1225, zf_zm_172_661 env, zpc_c⟩,
  Or.inl ⟨1226, zf_zm_172_662 env, zpc_c⟩,
  Or.inl ⟨1228, zf_zm_172_663 env, zpc_c⟩,
  Or.inl ⟨1229, zf_zm_172_664 env, zpc_c⟩,
  Or.inl ⟨1230, zf_zm_172_665 env, zpc_c⟩,
  Or.inl ⟨1231, zf_zm_172_666 env, zpc_c⟩,
  Or.inr (Or.inr (Or.inl ⟨zf_zm_172_667 env, zpc_c⟩)),
  Or.inl ⟨1236, zf_zm_172_668 env, zpc_c⟩,
  Or.inl ⟨1237, zf_zm_172_669 env, zpc_c⟩,
  Or.inr (Or.inr (Or.inl ⟨zf_zm_172_670 env, zpc_c⟩)),
  Or.inl ⟨1242, zf_zm_172_671 env, zpc_c⟩,
  Or.inl ⟨1245, zf_zm_172_672 env, zpc_c⟩,
  Or.inl ⟨1247, zf_zm_172_673 env, zpc_c⟩,
  Or.inl ⟨1249, zf_zm_172_674 env, zpc_c⟩,
  Or.inl ⟨1252, zf_zm_172_675 env, zpc_c⟩,
  Or.inl ⟨1264, zf_zm_172_676 env, zpc_c⟩,
  Or.inl ⟨1267, zf_zm_172_677 env, zpc_c⟩,
  Or.inl ⟨1268, zf_zm_172_678 env, zpc_c⟩,
  Or.inl ⟨1269, zf_zm_172_679 env, zpc_c⟩,
  Or.inl ⟨1271, zf_zm_172_680 env, zpc_c⟩,
  Or.inl ⟨1272, zf_zm_172_681 env, zpc_c⟩,
  Or.inl ⟨1273, zf_zm_172_682 env, zpc_c⟩,
  Or.inl ⟨1274, zf_zm_172_683 env, zpc_c⟩,
  Or.inl ⟨1275, zf_zm_172_684 env, zpc_c⟩,
  Or.inl ⟨1277, zf_zm_172_685 env, zpc_c⟩,
  Or.inl ⟨1278, zf_zm_172_686 env, zpc_c⟩,
  Or.inl ⟨1279, zf_zm_172_687 env, zpc_c⟩,
  Or.inl ⟨1280, zf_zm_172_688 env, zpc_c⟩,
  Or.inl ⟨1281, zf_zm_172_689 env, zpc_c⟩,
  Or.inr (Or.inr (Or.inl ⟨zf_zm_172_690 env, zpc_c⟩)),
  Or.inl ⟨1286, zf_zm_172_691 env, zpc_c⟩,
  Or.inl ⟨1287, zf_zm_172_692 env, zpc_c⟩,
  Or.inl ⟨1288, zf_zm_172_693 env, zpc_c⟩,
  Or.inl ⟨1290, zf_zm_172_694 env, zpc_c⟩,
  Or.inl ⟨1291, zf_zm_172_695 env, zpc_c⟩,
  Or.inl ⟨1292, zf_zm_172_696 env, zpc_c⟩,
  Or.inl ⟨1293, zf_zm_172_697 env, zpc_c⟩,
  Or.inl ⟨1294, zf_zm_172_698 env, zpc_c⟩,
  Or.inl ⟨1296, zf_zm_172_699 env, zpc_c⟩,
  Or.inl ⟨1297, zf_zm_172_700 env, zpc_c⟩,
  Or.inl ⟨1298, zf_zm_172_701 env, zpc_c⟩,
  Or.inl ⟨1299, zf_zm_172_702 env, zpc_c⟩,
  Or.inr (Or.inr (Or.inl ⟨zf_zm_172_703 env, zpc_c⟩)),
  Or.inl ⟨1304, zf_zm_172_704 env, zpc_c⟩,
  Or.inl ⟨1305, zf_zm_172_705 env, zpc_c⟩,
  Or.inr (Or.inr (Or.inl ⟨zf_zm_172_706 env, zpc_c⟩)),
  Or.inl ⟨1310, zf_zm_172_707 env, zpc_c⟩,
  Or.inl ⟨1313, zf_zm_172_708 env, zpc_c⟩,
  Or.inl ⟨1315, zf_zm_172_709 env, zpc_c⟩,
  Or.inl ⟨1317, zf_zm_172_710 env, zpc_c⟩,
  Or.inl ⟨1320, zf_zm_172_711 env, zpc_c⟩,
  Or.inl ⟨1332, zf_zm_172_712 env, zpc_c⟩,
  Or.inl ⟨1335, zf_zm_172_713 env, zpc_c⟩,
  Or.inl ⟨1336, zf_zm_172_714 env, zpc_c⟩,
  Or.inl ⟨1337, zf_zm_172_715 env, zpc_c⟩,
  Or.inl ⟨1339, zf_zm_172_716 env, zpc_c⟩,
  Or.inl ⟨1340, zf_zm_172_717 env, zpc_c⟩,
  Or.inl ⟨1341, zf_zm_172_718 env, zpc_c⟩,
  Or.inl ⟨1342, zf_zm_172_719 env, zpc_c⟩,
  Or.inl ⟨1343, zf_zm_172_720 env, zpc_c⟩,
  Or.inl ⟨1345, zf_zm_172_721 env, zpc_c⟩,
  Or.inl ⟨1346, zf_zm_172_722 env, zpc_c⟩,
  Or.inl ⟨1347, zf_zm_172_723 env, zpc_c⟩,
  Or.inl ⟨1348, zf_zm_172_724 env, zpc_c⟩,
  Or.inl ⟨1349, zf_zm_172_725 env, zpc_c⟩,
  Or.inl ⟨1351, zf_zm_172_726 env, zpc_c⟩,
  Or.inl ⟨1352, zf_zm_172_727 env, zpc_c⟩,
  Or.inl ⟨1353, zf_zm_172_728 env, zpc_c⟩,
  Or.inl ⟨1354, zf_zm_172_729 env, zpc_c⟩,
  Or.inl ⟨1355, zf_zm_172_730 env, zpc_c⟩,
  Or.inl ⟨1357, zf_zm_172_731 env, zpc_c⟩,
  Or.inl ⟨1358, zf_zm_172_732 env, zpc_c⟩,
  Or.inl ⟨1359, zf_zm_172_733 env, zpc_c⟩,
  Or.inl ⟨1360, zf_zm_172_734 env, zpc_c⟩,
  Or.inl ⟨1361, zf_zm_172_735 env, zpc_c⟩,
  Or.inr (Or.inr (Or.inl ⟨zf_zm_172_736 env, zpc_c⟩)),
  Or.inl ⟨1366, zf_zm_172_737 env, zpc_c⟩,
  Or.inl ⟨1367, zf_zm_172_738 env, zpc_c⟩,
  Or.inl ⟨1368, zf_zm_172_739 env, zpc_c⟩,
  Or.inl ⟨1370, zf_zm_172_740 env, zpc_c⟩,
  Or.inl ⟨1371, zf_zm_172_741 env, zpc_c⟩,
  Or.inl ⟨1372, zf_zm_172_742 env, zpc_c⟩,
  Or.inl ⟨1373, zf_zm_172_743 env, zpc_c⟩,
  Or.inl ⟨1374, zf_zm_172_744 env, zpc_c⟩,
  Or.inl ⟨1376, zf_zm_172_745 env, zpc_c⟩,
  Or.inl ⟨1377, zf_zm_172_746 env, zpc_c⟩,
  Or.inl ⟨1378, zf_zm_172_747 env, zpc_c⟩,
  Or.inl ⟨1379, zf_zm_172_748 env, zpc_c⟩,
  Or.inl ⟨1380, zf_zm_172_749 env, zpc_c⟩,
  Or.inl ⟨1382, zf_zm_172_750 env, zpc_c⟩,
  Or.inl ⟨1383, zf_zm_172_751 env, zpc_c⟩,
  Or.inl ⟨1384, zf_zm_172_752 env, zpc_c⟩,
  Or.inl ⟨1385, zf_zm_172_753 env, zpc_c⟩,
  Or.inl ⟨1386, zf_zm_172_754 env, zpc_c⟩,
  Or.inl ⟨1388, zf_zm_172_755 env, zpc_c⟩,
  Or.inl ⟨1389, zf_zm_172_756 env, zpc_c⟩,
  Or.inl ⟨1390, zf_zm_172_757 env, zpc_c⟩,
  Or.inl ⟨1391, zf_zm_172_758 env, zpc_c⟩,
  Or.inr (Or.inr (Or.inl ⟨zf_zm_172_759 env, zpc_c⟩)),
  Or.inl ⟨1396, zf_zm_172_760 env, zpc_c⟩,
  Or.inl ⟨1397, zf_zm_172_761 env, zpc_c⟩,
  Or.inr (Or.inr (Or.inl ⟨zf_zm_172_762 env, zpc_c⟩)),
  Or.inl ⟨1402, zf_zm_172_763 env, zpc_c⟩,
  Or.inl ⟨1405, zf_zm_172_764 env, zpc_c⟩,
  Or.inl ⟨1407, zf_zm_172_765 env, zpc_c⟩,
  Or.inl ⟨1409, zf_zm_172_766 env, zpc_c⟩,
  Or.inl ⟨1412, zf_zm_172_767 env, zpc_c⟩,
  Or.inl ⟨1424, zf_zm_172_768 env, zpc_c⟩,
  Or.inl ⟨1427, zf_zm_172_769 env, zpc_c⟩,
  Or.inl ⟨1428, zf_zm_172_770 env, zpc_c⟩,
  Or.inl ⟨1429, zf_zm_172_771 env, zpc_c⟩,
  Or.inl ⟨1431, zf_zm_172_772 env, zpc_c⟩,
  Or.inl ⟨1432, zf_zm_172_773 env, zpc_c⟩,
  Or.inl ⟨1433, zf_zm_172_774 env, zpc_c⟩,
  Or.inl ⟨1434, zf_zm_172_775 env, zpc_c⟩,
  Or.inr (Or.inr (Or.inl ⟨zf_zm_172_776 env, zpc_c⟩)),
  Or.inl ⟨1439, zf_zm_172_777 env, zpc_c⟩,
  Or.inl ⟨1440, zf_zm_172_778 env, zpc_c⟩,
  Or.inl ⟨1441, zf_zm_172_779 env, zpc_c⟩,
  Or.inl ⟨1443, zf_zm_172_780 env, zpc_c⟩,
  Or.inl ⟨1444, zf_zm_172_781 env, zpc_c⟩,
  Or.inl ⟨1445, zf_zm_172_782 env, zpc_c⟩,
  Or.inl ⟨1446, zf_zm_172_783 env, zpc_c⟩,
  Or.inr (Or.inr (Or.inl ⟨zf_zm_172_784 env, zpc_c⟩)),
  Or.inl ⟨1450, zf_zm_172_785 env, zpc_c⟩,
  Or.inr (Or.inr (Or.inl ⟨zf_zm_172_786 env, zpc_c⟩)),
  Or.inl ⟨1455, zf_zm_172_787 env, zpc_c⟩,
  Or.inl ⟨1458, zf_zm_172_788 env, zpc_c⟩,
  Or.inl ⟨1460, zf_zm_172_789 env, zpc_c⟩,
  Or.inl ⟨1463, zf_zm_172_790 env, zpc_c⟩,
  Or.inl ⟨1464, zf_zm_172_791 env, zpc_c⟩,
  Or.inl ⟨1465, zf_zm_172_792 env, zpc_c⟩,
  Or.inl ⟨1467, zf_zm_172_793 env, zpc_c⟩,
  Or.inl ⟨1468, zf_zm_172_794 env, zpc_c⟩,
  Or.inl ⟨1469, zf_zm_172_795 env, zpc_c⟩,
  Or.inl ⟨1470, zf_zm_172_796 env, zpc_c⟩,
  Or.inl ⟨1471, zf_zm_172_797 env, zpc_c⟩,
  Or.inr (Or.inr (Or.inl ⟨zf_zm_172_798 env, zpc_c⟩)),
  Or.inl ⟨1476, zf_zm_172_799 env, zpc_c⟩,
  Or.inl ⟨1477, zf_zm_172_800 env, zpc_c⟩,
  Or.inl ⟨1478, zf_zm_172_801 env, zpc_c⟩,
  Or.inl ⟨1480, zf_zm_172_802 env, zpc_c⟩,
  Or.inl ⟨1481, zf_zm_172_803 env, zpc_c⟩,
  Or.inl ⟨1482, zf_zm_172_804 env, zpc_c⟩,
  Or.inl ⟨1483, zf_zm_172_805 env, zpc_c⟩,
  Or.inr (Or.inr (Or.inl ⟨zf_zm_172_806 env, zpc_c⟩)),
  Or.inl ⟨1488, zf_zm_172_807 env, zpc_c⟩,
  Or.inl ⟨1489, zf_zm_172_808 env, zpc_c⟩,
  Or.inr (Or.inr (Or.inl ⟨zf_zm_172_809 env, zpc_c⟩)),
  Or.inl ⟨1494, zf_zm_172_810 env, zpc_c⟩,
  Or.inl ⟨1497, zf_zm_172_811 env, zpc_c⟩,
  Or.inl ⟨1499, zf_zm_172_812 env, zpc_c⟩,
  Or.inl ⟨1501, zf_zm_172_813 env, zpc_c⟩,
  Or.inl ⟨1504, zf_zm_172_814 env, zpc_c⟩,
  Or.inl ⟨1505, zf_zm_172_815 env, zpc_c⟩,
  Or.inl ⟨1506, zf_zm_172_816 env, zpc_c⟩,
  Or.inl ⟨1507, zf_zm_172_817 env, zpc_c⟩,
  Or.inl ⟨1509, zf_zm_172_818 env, zpc_c⟩,
  Or.inl ⟨1510, zf_zm_172_819 env, zpc_c⟩,
  Or.inl ⟨1511, zf_zm_172_820 env, zpc_c⟩,
  Or.inl ⟨1514, zf_zm_172_821 env, zpc_c⟩,
  Or.inl ⟨1516, zf_zm_172_822 env, zpc_c⟩,
  Or.inl ⟨1519, zf_zm_172_823 env, zpc_c⟩,
  Or.inl ⟨1520, zf_zm_172_824 env, zpc_c⟩,
  Or.inl ⟨1521, zf_zm_172_825 env, zpc_c⟩,
  Or.inl ⟨1523, zf_zm_172_826 env, zpc_c⟩,
  Or.inl ⟨1524, zf_zm_172_827 env, zpc_c⟩,
  Or.inl ⟨1525, zf_zm_172_828 env, zpc_c⟩,
  Or.inl ⟨1526, zf_zm_172_829 env, zpc_c⟩,
  Or.inl ⟨1527, zf_zm_172_830 env, zpc_c⟩,
  Or.inl ⟨1529, zf_zm_172_831 env, zpc_c⟩,
  Or.inl ⟨1530, zf_zm_172_832 env, zpc_c⟩,
  Or.inl ⟨1531, zf_zm_172_833 env, zpc_c⟩,
  Or.inl ⟨1532, zf_zm_172_834 env, zpc_c⟩,
  Or.inl ⟨1533, zf_zm_172_835 env, zpc_c⟩,
  Or.inr (Or.inr (Or.inl ⟨zf_zm_172_836 env, zpc_c⟩)),
  Or.inl ⟨1538, zf_zm_172_837 env, zpc_c⟩,
  Or.inl ⟨1539, zf_zm_172_838 env, zpc_c⟩,
  Or.inl ⟨1540, zf_zm_172_839 env, zpc_c⟩,
  Or.inl ⟨1542, zf_zm_172_840 env, zpc_c⟩,
  Or.inl ⟨1543, zf_zm_172_841 env, zpc_c⟩,
  Or.inl ⟨1544, zf_zm_172_842 env, zpc_c⟩,
  Or.inl ⟨1545, zf_zm_172_843 env, zpc_c⟩,
  Or.inl ⟨1546, zf_zm_172_844 env, zpc_c⟩,
  Or.inl ⟨1548, zf_zm_172_845 env, zpc_c⟩,
  Or.inl ⟨1549, zf_zm_172_846 env, zpc_c⟩,
  Or.inl ⟨1550, zf_zm_172_847 env, zpc_c⟩,
  Or.inl ⟨1551, zf_zm_172_848 env, zpc_c⟩,
  Or.inr (Or.inr (Or.inl ⟨zf_zm_172_849 env, zpc_c⟩)),
  Or.inl ⟨1556, zf_zm_172_850 env, zpc_c⟩,
  Or.inl ⟨1557, zf_zm_172_851 env, zpc_c⟩,
  Or.inr (Or.inr (Or.inl ⟨zf_zm_172_852 env, zpc_c⟩)),
  Or.inl ⟨1562, zf_zm_172_853 env, zpc_c⟩,
  Or.inl ⟨1565, zf_zm_172_854 env, zpc_c⟩,
  Or.inl ⟨1567, zf_zm_172_855 env, zpc_c⟩,
  Or.inl ⟨1569, zf_zm_172_856 env, zpc_c⟩,
  Or.inl ⟨1572, zf_zm_172_857 env, zpc_c⟩,
  Or.inl ⟨1573, zf_zm_172_858 env, zpc_c⟩,
  Or.inl ⟨1574, zf_zm_172_859 env, zpc_c⟩,
  Or.inl ⟨1575, zf_zm_172_860 env, zpc_c⟩,
  Or.inl ⟨1577, zf_zm_172_861 env, zpc_c⟩,
  Or.inl ⟨1578, zf_zm_172_862 env, zpc_c⟩,
  Or.inl ⟨1579, zf_zm_172_863 env, zpc_c⟩,
  Or.inl ⟨1582, zf_zm_172_864 env, zpc_c⟩,
  Or.inl ⟨1584, zf_zm_172_865 env, zpc_c⟩,
  Or.inl ⟨1587, zf_zm_172_866 env, zpc_c⟩,
  Or.inl ⟨1588, zf_zm_172_867 env, zpc_c⟩,
  Or.inl ⟨1589, zf_zm_172_868 env, zpc_c⟩,
  Or.inl ⟨1591, zf_zm_172_869 env, zpc_c⟩,
  Or.inl ⟨1592, zf_zm_172_870 env, zpc_c⟩,
  Or.inl ⟨1593, zf_zm_172_871 env, zpc_c⟩,
  Or.inl ⟨1594, zf_zm_172_872 env, zpc_c⟩,
  Or.inl ⟨1595, zf_zm_172_873 env, zpc_c⟩,
  Or.inl ⟨1597, zf_zm_172_874 env, zpc_c⟩,
  Or.inl ⟨1598, zf_zm_172_875 env, zpc_c⟩,
  Or.inl ⟨1599, zf_zm_172_876 env, zpc_c⟩,
  Or.inl ⟨1600, zf_zm_172_877 env, zpc_c⟩,
  Or.inl ⟨1601, zf_zm_172_878 env, zpc_c⟩,
  Or.inl ⟨1603, zf_zm_172_879 env, zpc_c⟩,
  Or.inl ⟨1604, zf_zm_172_880 env, zpc_c⟩,
  Or.inl ⟨1605, zf_zm_172_881 env, zpc_c⟩,
  Or.inl ⟨1606, zf_zm_172_882 env, zpc_c⟩,
  Or.inl ⟨1607, zf_zm_172_883 env, zpc_c⟩,
  Or.inr (Or.inr (Or.inl ⟨zf_zm_172_884 env, zpc_c⟩)),
  Or.inl ⟨1612, zf_zm_172_885 env, zpc_c⟩,
  Or.inl ⟨1613, zf_zm_172_886 env, zpc_c⟩,
  Or.inl ⟨1614, zf_zm_172_887 env, zpc_c⟩,
  Or.inl ⟨1616, zf_zm_172_888 env, zpc_c⟩,
  Or.inl ⟨1617, zf_zm_172_889 env, zpc_c⟩,
  Or.inl ⟨1618, zf_zm_172_890 env, zpc_c⟩,
  Or.inl ⟨1619, zf_zm_172_891 env, zpc_c⟩,
  Or.inl ⟨1620, zf_zm_172_892 env, zpc_c⟩,
  Or.inl ⟨1622, zf_zm_172_893 env, zpc_c⟩,
  Or.inl ⟨1623, zf_zm_172_894 env, zpc_c⟩,
  Or.inl ⟨1624, zf_zm_172_895 env, zpc_c⟩,
  Or.inl ⟨1625, zf_zm_172_896 env, zpc_c⟩,
  Or.inl ⟨1626, zf_zm_172_897 env, zpc_c⟩,
  Or.inl ⟨1628, zf_zm_172_898 env, zpc_c⟩,
  Or.inl ⟨1629, zf_zm_172_899 env, zpc_c⟩,
  Or.inl ⟨1630, zf_zm_172_900 env, zpc_c⟩,
  Or.inl ⟨1631, zf_zm_172_901 env, zpc_c⟩,
  Or.inr (Or.inr (Or.inl ⟨zf_zm_172_902 env, zpc_c⟩)),
  Or.inl ⟨1636, zf_zm_172_903 env, zpc_c⟩,
  Or.inl ⟨1637, zf_zm_172_904 env, zpc_c⟩,
  Or.inr (Or.inr (Or.inl ⟨zf_zm_172_905 env, zpc_c⟩)),
  Or.inl ⟨1642, zf_zm_172_906 env, zpc_c⟩,
  Or.inl ⟨1645, zf_zm_172_907 env, zpc_c⟩,
  Or.inl ⟨1647, zf_zm_172_908 env, zpc_c⟩,
  Or.inl ⟨1649, zf_zm_172_909 env, zpc_c⟩,
  Or.inl ⟨1652, zf_zm_172_910 env, zpc_c⟩,
  Or.inl ⟨1664, zf_zm_172_911 env, zpc_c⟩,
  Or.inl ⟨1667, zf_zm_172_912 env, zpc_c⟩,
  Or.inl ⟨1668, zf_zm_172_913 env, zpc_c⟩,
  Or.inl ⟨1669, zf_zm_172_914 env, zpc_c⟩,
  Or.inl ⟨1671, zf_zm_172_915 env, zpc_c⟩,
  Or.inl ⟨1672, zf_zm_172_916 env, zpc_c⟩,
  Or.inl ⟨1673, zf_zm_172_917 env, zpc_c⟩,
  Or.inl ⟨1674, zf_zm_172_918 env, zpc_c⟩,
  Or.inl ⟨1675, zf_zm_172_919 env, zpc_c⟩,
  Or.inl ⟨1677, zf_zm_172_920 env, zpc_c⟩,
  Or.inl ⟨1678, zf_zm_172_921 env, zpc_c⟩,
  Or.inl ⟨1679, zf_zm_172_922 env, zpc_c⟩,
  Or.inl ⟨1680, zf_zm_172_923 env, zpc_c⟩,
  Or.inl ⟨1681, zf_zm_172_924 env, zpc_c⟩,
  Or.inr (Or.inr (Or.inl ⟨zf_zm_172_925 env, zpc_c⟩)),
  Or.inl ⟨1686, zf_zm_172_926 env, zpc_c⟩,
  Or.inl ⟨1687, zf_zm_172_927 env, zpc_c⟩,
  Or.inl ⟨1688, zf_zm_172_928 env, zpc_c⟩,
  Or.inl ⟨1690, zf_zm_172_929 env, zpc_c⟩,
  Or.inl ⟨1691, zf_zm_172_930 env, zpc_c⟩,
  Or.inl ⟨1692, zf_zm_172_931 env, zpc_c⟩,
  Or.inl ⟨1693, zf_zm_172_932 env, zpc_c⟩,
  Or.inl ⟨1694, zf_zm_172_933 env, zpc_c⟩,
  Or.inl ⟨1696, zf_zm_172_934 env, zpc_c⟩,
  Or.inl ⟨1697, zf_zm_172_935 env, zpc_c⟩,
  Or.inl ⟨1698, zf_zm_172_936 env, zpc_c⟩,
  Or.inl ⟨1699, zf_zm_172_937 env, zpc_c⟩,
  Or.inr (Or.inr (Or.inl ⟨zf_zm_172_938 env, zpc_c⟩)),
  Or.inl ⟨1704, zf_zm_172_939 env, zpc_c⟩,
  Or.inl ⟨1705, zf_zm_172_940 env, zpc_c⟩,
  Or.inr (Or.inr (Or.inl ⟨zf_zm_172_941 env, zpc_c⟩)),
  Or.inl ⟨1710, zf_zm_172_942 env, zpc_c⟩,
  Or.inl ⟨1713, zf_zm_172_943 env, zpc_c⟩,
  Or.inl ⟨1715, zf_zm_172_944 env, zpc_c⟩,
  Or.inl ⟨1717, zf_zm_172_945 env, zpc_c⟩,
  Or.inl ⟨1720, zf_zm_172_946 env, zpc_c⟩,
  Or.inl ⟨1721, zf_zm_172_947 env, zpc_c⟩,
  Or.inl ⟨1722, zf_zm_172_948 env, zpc_c⟩,
  Or.inl ⟨1723, zf_zm_172_949 env, zpc_c⟩,
  Or.inl ⟨1725, zf_zm_172_950 env, zpc_c⟩,
  Or.inl ⟨1726, zf_zm_172_951 env, zpc_c⟩,
  Or.inl ⟨1727, zf_zm_172_952 env, zpc_c⟩,
  Or.inl ⟨1730, zf_zm_172_953 env, zpc_c⟩,
  Or.inl ⟨1732, zf_zm_172_954 env, zpc_c⟩,
  Or.inl ⟨1735, zf_zm_172_955 env, zpc_c⟩,
  Or.inl ⟨1736, zf_zm_172_956 env, zpc_c⟩,
  Or.inl ⟨1737, zf_zm_172_957 env, zpc_c⟩,
  Or.inl ⟨1739, zf_zm_172_958 env, zpc_c⟩,
  Or.inl ⟨1740, zf_zm_172_959 env, zpc_c⟩,
  Or.inl ⟨1741, zf_zm_172_960 env, zpc_c⟩,
  Or.inl ⟨1742, zf_zm_172_961 env, zpc_c⟩,
  Or.inl ⟨1743, zf_zm_172_962 env, zpc_c⟩,
  Or.inl ⟨1745, zf_zm_172_963 env, zpc_c⟩,
  Or.inl ⟨1746, zf_zm_172_964 env, zpc_c⟩,
  Or.inl ⟨1747, zf_zm_172_965 env, zpc_c⟩,
  Or.inl ⟨1748, zf_zm_172_966 env, zpc_c⟩,
  Or.inl ⟨1749, zf_zm_172_967 env, zpc_c⟩,
  Or.inr (Or.inr (Or.inl ⟨zf_zm_172_968 env, zpc_c⟩)),
  Or.inl ⟨1754, zf_zm_172_969 env, zpc_c⟩,
  Or.inl ⟨1755, zf_zm_172_970 env, zpc_c⟩,
  Or.inl ⟨1756, zf_zm_172_971 env, zpc_c⟩,
  Or.inl ⟨1758, zf_zm_172_972 env, zpc_c⟩,
  Or.inl ⟨1759, zf_zm_172_973 env, zpc_c⟩,
  Or.inl ⟨1760, zf_zm_172_974 env, zpc_c⟩,
  Or.inl ⟨1761, zf_zm_172_975 env, zpc_c⟩,
  Or.inl ⟨1762, zf_zm_172_976 env, zpc_c⟩,
  Or.inl ⟨1764, zf_zm_172_977 env, zpc_c⟩,
  Or.inl ⟨1765, zf_zm_172_978 env, zpc_c⟩,
  Or.inl ⟨1766, zf_zm_172_979 env, zpc_c⟩,
  Or.inl ⟨1767, zf_zm_172_980 env, zpc_c⟩,
  Or.inr (Or.inr (Or.inl ⟨zf_zm_172_981 env, zpc_c⟩)),
  Or.inl ⟨1772, zf_zm_172_982 env, zpc_c⟩,
  Or.inl ⟨1773, zf_zm_172_983 env, zpc_c⟩,
  Or.inr (Or.inr (Or.inl ⟨zf_zm_172_984 env, zpc_c⟩)),
  Or.inl ⟨1778, zf_zm_172_985 env, zpc_c⟩,
  Or.inl ⟨1781, zf_zm_172_986 env, zpc_c⟩,
  Or.inl ⟨1783, zf_zm_172_987 env, zpc_c⟩,
  Or.inl ⟨1785, zf_zm_172_988 env, zpc_c⟩,
  Or.inl ⟨1788, zf_zm_172_989 env, zpc_c⟩,
  Or.inl ⟨1789, zf_zm_172_990 env, zpc_c⟩,
  Or.inl ⟨1790, zf_zm_172_991 env, zpc_c⟩,
  Or.inl ⟨1791, zf_zm_172_992 env, zpc_c⟩,
  Or.inl ⟨1793, zf_zm_172_993 env, zpc_c⟩,
  Or.inl ⟨1794, zf_zm_172_994 env, zpc_c⟩,
  Or.inl ⟨1795, zf_zm_172_995 env, zpc_c⟩,
  Or.inl ⟨1798, zf_zm_172_996 env, zpc_c⟩,
  Or.inl ⟨1800, zf_zm_172_997 env, zpc_c⟩,
  Or.inl ⟨1803, zf_zm_172_998 env, zpc_c⟩,
  Or.inl ⟨1804, zf_zm_172_999 env, zpc_c⟩,
  Or.inl ⟨1805, zf_zm_172_1000 env, zpc_c⟩,
  Or.inl ⟨1807, zf_zm_172_1001 env, zpc_c⟩,
  Or.inl ⟨1808, zf_zm_172_1002 env, zpc_c⟩,
  Or.inl ⟨1809, zf_zm_172_1003 env, zpc_c⟩,
  Or.inl ⟨1810, zf_zm_172_1004 env, zpc_c⟩,
  Or.inl ⟨1811, zf_zm_172_1005 env, zpc_c⟩,
  Or.inl ⟨1813, zf_zm_172_1006 env, zpc_c⟩,
  Or.inl ⟨1814, zf_zm_172_1007 env, zpc_c⟩,
  Or.inl ⟨1815, zf_zm_172_1008 env, zpc_c⟩,
  Or.inl ⟨1816, zf_zm_172_1009 env, zpc_c⟩,
  Or.inl ⟨1817, zf_zm_172_1010 env, zpc_c⟩,
  Or.inl ⟨1819, zf_zm_172_1011 env, zpc_c⟩,
  Or.inl ⟨1820, zf_zm_172_1012 env, zpc_c⟩,
  Or.inl ⟨1821, zf_zm_172_1013 env, zpc_c⟩,
  Or.inl ⟨1822, zf_zm_172_1014 env, zpc_c⟩,
  Or.inl ⟨1823, zf_zm_172_1015 env, zpc_c⟩,
  Or.inr (Or.inr (Or.inl ⟨zf_zm_172_1016 env, zpc_c⟩)),
  Or.inl ⟨1828, zf_zm_172_1017 env, zpc_c⟩,
  Or.inl ⟨1829, zf_zm_172_1018 env, zpc_c⟩,
  Or.inl ⟨1830, zf_zm_172_1019 env, zpc_c⟩,
  Or.inl ⟨1832, zf_zm_172_1020 env, zpc_c⟩,
  Or.inl ⟨1833, zf_zm_172_1021 env, zpc_c⟩,
  Or.inl ⟨1834, zf_zm_172_1022 env, zpc_c⟩,
  Or.inl ⟨1835, zf_zm_172_1023 env, zpc_c⟩,
  Or.inl ⟨1836, zf_zm_172_1024 env, zpc_c⟩,
  Or.inl ⟨1838, zf_zm_172_1025 env, zpc_c⟩,
  Or.inl ⟨1839, zf_zm_172_1026 env, zpc_c⟩,
  Or.inl ⟨1840, zf_zm_172_1027 env, zpc_c⟩,
  Or.inl ⟨1841, zf_zm_172_1028 env, zpc_c⟩,
  Or.inl ⟨1842, zf_zm_172_1029 env, zpc_c⟩,
  Or.inl ⟨1844, zf_zm_172_1030 env, zpc_c⟩,
  Or.inl ⟨1845, zf_zm_172_1031 env, zpc_c⟩,
  Or.inl ⟨1846, zf_zm_172_1032 env, zpc_c⟩,
  Or.inl ⟨1847, zf_zm_172_1033 env, zpc_c⟩,
  Or.inr (Or.inr (Or.inl ⟨zf_zm_172_1034 env, zpc_c⟩)),
  Or.inl ⟨1852, zf_zm_172_1035 env, zpc_c⟩,
  Or.inl ⟨1853, zf_zm_172_1036 env, zpc_c⟩,
  Or.inr (Or.inr (Or.inl ⟨zf_zm_172_1037 env, zpc_c⟩)),
  Or.inl ⟨1858, zf_zm_172_1038 env, zpc_c⟩,
  Or.inl ⟨1861, zf_zm_172_1039 env, zpc_c⟩,
  Or.inl ⟨1863, zf_zm_172_1040 env, zpc_c⟩,
  Or.inl ⟨1865, zf_zm_172_1041 env, zpc_c⟩,
  Or.inl ⟨1868, zf_zm_172_1042 env, zpc_c⟩,
  Or.inl ⟨1869, zf_zm_172_1043 env, zpc_c⟩,
  Or.inl ⟨1870, zf_zm_172_1044 env, zpc_c⟩,
  Or.inl ⟨1871, zf_zm_172_1045 env, zpc_c⟩,
  Or.inl ⟨1873, zf_zm_172_1046 env, zpc_c⟩,
  Or.inl ⟨1874, zf_zm_172_1047 env, zpc_c⟩,
  Or.inl ⟨1877, zf_zm_172_1048 env, zpc_c⟩,
  Or.inl ⟨1879, zf_zm_172_1049 env, zpc_c⟩,
  Or.inl ⟨1882, zf_zm_172_1050 env, zpc_c⟩,
  Or.inl ⟨1883, zf_zm_172_1051 env, zpc_c⟩,
  Or.inl ⟨1884, zf_zm_172_1052 env, zpc_c⟩,
  Or.inl ⟨1886, zf_zm_172_1053 env, zpc_c⟩,
  Or.inl ⟨1887, zf_zm_172_1054 env, zpc_c⟩,
  Or.inl ⟨1888, zf_zm_172_1055 env, zpc_c⟩,
  Or.inl ⟨1889, zf_zm_172_1056 env, zpc_c⟩,
  Or.inl ⟨1890, zf_zm_172_1057 env, zpc_c⟩,
  Or.inl ⟨1892, zf_zm_172_1058 env, zpc_c⟩,
  Or.inl ⟨1893, zf_zm_172_1059 env, zpc_c⟩,
  Or.inl ⟨1894, zf_zm_172_1060 env, zpc_c⟩,
  Or.inl ⟨1895, zf_zm_172_1061 env, zpc_c⟩,
  Or.inl ⟨1896, zf_zm_172_1062 env, zpc_c⟩,
  Or.inl ⟨1898, zf_zm_172_1063 env, zpc_c⟩,
  Or.inl ⟨1899, zf_zm_172_1064 env, zpc_c⟩,
  Or.inl ⟨1900, zf_zm_172_1065 env, zpc_c⟩,
  Or.inl ⟨1901, zf_zm_172_1066 env, zpc_c⟩,
  Or.inl ⟨1902, zf_zm_172_1067 env, zpc_c⟩,
  Or.inr (Or.inr (Or.inl ⟨zf_zm_172_1068 env, zpc_c⟩)),
  Or.inl ⟨1907, zf_zm_172_1069 env, zpc_c⟩,
  Or.inl ⟨1908, zf_zm_172_1070 env, zpc_c⟩,
  Or.inl ⟨1909, zf_zm_172_1071 env, zpc_c⟩,
  Or.inl ⟨1911, zf_zm_172_1072 env, zpc_c⟩,
  Or.inl ⟨1912, zf_zm_172_1073 env, zpc_c⟩,
  Or.inl ⟨1913, zf_zm_172_1074 env, zpc_c⟩,
  Or.inl ⟨1914, zf_zm_172_1075 env, zpc_c⟩,
  Or.inl ⟨1915, zf_zm_172_1076 env, zpc_c⟩,
  Or.inl ⟨1917, zf_zm_172_1077 env, zpc_c⟩,
  Or.inl ⟨1918, zf_zm_172_1078 env, zpc_c⟩,
  Or.inl ⟨1919, zf_zm_172_1079 env, zpc_c⟩,
  Or.inl ⟨1920, zf_zm_172_1080 env, zpc_c⟩,
  Or.inl ⟨1921, zf_zm_172_1081 env, zpc_c⟩,
  Or.inl ⟨1923, zf_zm_172_1082 env, zpc_c⟩,
  Or.inl ⟨1924, zf_zm_172_1083 env, zpc_c⟩,
  Or.inl ⟨1925, zf_zm_172_1084 env, zpc_c⟩,
  Or.inl ⟨1926, zf_zm_172_1085 env, zpc_c⟩,
  Or.inr (Or.inr (Or.inl ⟨zf_zm_172_1086 env, zpc_c⟩)),
  Or.inl ⟨1931, zf_zm_172_1087 env, zpc_c⟩,
  Or.inl ⟨1932, zf_zm_172_1088 env, zpc_c⟩,
  Or.inr (Or.inr (Or.inl ⟨zf_zm_172_1089 env, zpc_c⟩)),
  Or.inl ⟨1937, zf_zm_172_1090 env, zpc_c⟩,
  Or.inl ⟨1940, zf_zm_172_1091 env, zpc_c⟩,
  Or.inl ⟨1942, zf_zm_172_1092 env, zpc_c⟩,
  Or.inl ⟨1944, zf_zm_172_1093 env, zpc_c⟩,
  Or.inl ⟨1947, zf_zm_172_1094 env, zpc_c⟩,
  Or.inl ⟨1948, zf_zm_172_1095 env, zpc_c⟩,
  Or.inl ⟨1949, zf_zm_172_1096 env, zpc_c⟩,
  Or.inl ⟨1950, zf_zm_172_1097 env, zpc_c⟩,
  Or.inl ⟨1952, zf_zm_172_1098 env, zpc_c⟩,
  Or.inl ⟨1953, zf_zm_172_1099 env, zpc_c⟩,
  Or.inl ⟨1956, zf_zm_172_1100 env, zpc_c⟩,
  Or.inl ⟨1958, zf_zm_172_1101 env, zpc_c⟩,
  Or.inl ⟨1961, zf_zm_172_1102 env, zpc_c⟩,
  Or.inl ⟨1962, zf_zm_172_1103 env, zpc_c⟩,
  Or.inl ⟨1963, zf_zm_172_1104 env, zpc_c⟩,
  Or.inl ⟨1965, zf_zm_172_1105 env, zpc_c⟩,
  Or.inl ⟨1966, zf_zm_172_1106 env, zpc_c⟩,
  Or.inl ⟨1967, zf_zm_172_1107 env, zpc_c⟩,
  Or.inl ⟨1968, zf_zm_172_1108 env, zpc_c⟩,
  Or.inl ⟨1969, zf_zm_172_1109 env, zpc_c⟩,
  Or.inl ⟨1971, zf_zm_172_1110 env, zpc_c⟩,
  Or.inl ⟨1972, zf_zm_172_1111 env, zpc_c⟩,
  Or.inl ⟨1973, zf_zm_172_1112 env, zpc_c⟩,
  Or.inl ⟨1974, zf_zm_172_1113 env, zpc_c⟩,
  Or.inl ⟨1975, zf_zm_172_1114 env, zpc_c⟩,
  Or.inr (Or.inr (Or.inl ⟨zf_zm_172_1115 env, zpc_c⟩)),
  Or.inl ⟨1980, zf_zm_172_1116 env, zpc_c⟩,
  Or.inl ⟨1981, zf_zm_172_1117 env, zpc_c⟩,
  Or.inl ⟨1982, zf_zm_172_1118 env, zpc_c⟩,
  Or.inl ⟨1984, zf_zm_172_1119 env, zpc_c⟩,
  Or.inl ⟨1985, zf_zm_172_1120 env, zpc_c⟩,
  Or.inl ⟨1986, zf_zm_172_1121 env, zpc_c⟩,
  Or.inl ⟨1987, zf_zm_172_1122 env, zpc_c⟩,
  Or.inl ⟨1988, zf_zm_172_1123 env, zpc_c⟩,
  Or.inl ⟨1990, zf_zm_172_1124 env, zpc_c⟩,
  Or.inl ⟨1991, zf_zm_172_1125 env, zpc_c⟩,
  Or.inl ⟨1992, zf_zm_172_1126 env, zpc_c⟩,
  Or.inl ⟨1993, zf_zm_172_1127 env, zpc_c⟩,
  Or.inr (Or.inr (Or.inl ⟨zf_zm_172_1128 env, zpc_c⟩)),
  Or.inl ⟨1998, zf_zm_172_1129 env, zpc_c⟩,
  Or.inl ⟨1999, zf_zm_172_1130 env, zpc_c⟩,
  Or.inr (Or.inr (Or.inl ⟨zf_zm_172_1131 env, zpc_c⟩)),
  Or.inl ⟨2004, zf_zm_172_1132 env, zpc_c⟩,
  Or.inl ⟨2007, zf_zm_172_1133 env, zpc_c⟩,
  Or.inl ⟨2009, zf_zm_172_1134 env, zpc_c⟩,
  Or.inl ⟨2011, zf_zm_172_1135 env, zpc_c⟩,
  Or.inl ⟨2014, zf_zm_172_1136 env, zpc_c⟩,
  Or.inl ⟨2015, zf_zm_172_1137 env, zpc_c⟩,
  Or.inl ⟨2016, zf_zm_172_1138 env, zpc_c⟩,
  Or.inl ⟨2017, zf_zm_172_1139 env, zpc_c⟩,
  Or.inl ⟨2019, zf_zm_172_1140 env, zpc_c⟩,
  Or.inl ⟨2020, zf_zm_172_1141 env, zpc_c⟩,
  Or.inl ⟨2023, zf_zm_172_1142 env, zpc_c⟩,
  Or.inl ⟨2025, zf_zm_172_1143 env, zpc_c⟩,
  Or.inl ⟨2028, zf_zm_172_1144 env, zpc_c⟩,
  Or.inl ⟨2031, zf_zm_172_1145 env, zpc_c⟩,
  Or.inl ⟨2034, zf_zm_172_1146 env, zpc_c⟩,
  Or.inl ⟨2035, zf_zm_172_1147 env, zpc_c⟩,
  Or.inr (Or.inl (zf_zm_172_1148 env)), trivial⟩
