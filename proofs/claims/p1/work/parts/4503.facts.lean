/-! FACTS (by program) -/
theorem zf_zm_69_0 (env : List (Nat × Nat)) : zI9 69 zY_69 zm_69 env (0, 0, 0, 0, 0) 1 := zi_aload_n (by decide +kernel : decode zY_69.2.1 0 = .ok (.aload_n 0, 1)) rfl
theorem zf_zm_69_1 (env : List (Nat × Nat)) : zI9 69 zY_69 zm_69 env (1, 63, 1, 0, 0) 2 := zi_iload_n (by decide +kernel : decode zY_69.2.1 1 = .ok (.iload_n 1, 1)) rfl
theorem zf_zm_69_2 (env : List (Nat × Nat)) : zC9 69 zm_69 env (2, 66, 45, 65, 0) := zi_call (by decide +kernel) (zr_S (i := 106) zX_ok rfl (zgood_45) (by decide +kernel) (zw_T zwd_250) (zw_T zwd_261) (zw_T zwd_262) ⟨by decide +kernel, by decide +kernel, by decide +kernel⟩ (by decide +kernel : decode (zYf 69).2.1 2 = .ok (.invokestatic 106, 3)))
theorem zf_zm_69_3 (env : List (Nat × Nat)) : zI9 69 zY_69 zm_69 env (5, 2, 1, 0, 0) 6 := zi_iconst (by decide +kernel : decode zY_69.2.1 5 = .ok (.iconst 1, 1)) (by decide +kernel)
theorem zf_zm_69_4 (env : List (Nat × Nat)) : zC9 69 zm_69 env (6, 66, 44, 195, 3) := zi_call (by decide +kernel) (zr_V (i := 102) (n := 2) (q := ("TransportPairModel", zF_1, 23)) zX_ok rfl (zgood_44) (by decide +kernel) (zw_T zwd_250) (zw_T zwd_259) (zw_T zwd_260) rfl (zw_T (zt_sel (y := ⟨"TransportPairModel","fails","(ZI)Z"⟩) (n := 23) 102 (by decide +kernel))) ⟨by decide +kernel, by decide +kernel, by decide +kernel⟩ rfl (by decide +kernel : decode (zYf 69).2.1 6 = .ok (.invokevirtual 102, 3)))
theorem zf_zm_69_5 (env : List (Nat × Nat)) : zI9 69 zY_69 zm_69 env (9, 6, 19, 0, 0) 12 := zi_if_ne (off := 46) (t := 55) (by decide +kernel : decode zY_69.2.1 9 = .ok (.ifCond .ne 46, 3)) (by decide) (by decide +kernel)
theorem zf_zm_69_6 (env : List (Nat × Nat)) : zI9 69 zY_69 zm_69 env (12, 0, 0, 0, 0) 13 := zi_aload_n (by decide +kernel : decode zY_69.2.1 12 = .ok (.aload_n 0, 1)) rfl
theorem zf_zm_69_7 (env : List (Nat × Nat)) : zI9 69 zY_69 zm_69 env (13, 0, 0, 0, 0) 14 := zi_aload_n (by decide +kernel : decode zY_69.2.1 13 = .ok (.aload_n 0, 1)) rfl
theorem zf_zm_69_8 (env : List (Nat × Nat)) : zI9 69 zY_69 zm_69 env (14, 63, 1, 0, 0) 15 := zi_iload_n (by decide +kernel : decode zY_69.2.1 14 = .ok (.iload_n 1, 1)) rfl
theorem zf_zm_69_9 (env : List (Nat × Nat)) : zI9 69 zY_69 zm_69 env (15, 63, 2, 0, 0) 16 := zi_iload_n (by decide +kernel : decode zY_69.2.1 15 = .ok (.iload_n 2, 1)) rfl
theorem zf_zm_69_10 (env : List (Nat × Nat)) : zC9 69 zm_69 env (16, 66, 61, 195, 3) := zi_call (by decide +kernel) (zr_V (i := 181) (n := 2) (q := ("TransportPairModel", zF_1, 23)) zX_ok rfl (zgood_61) (by decide +kernel) (zw_T zwd_250) (zw_T zwd_288) (zw_T zwd_289) rfl (zw_T (zt_sel (y := ⟨"TransportPairModel","isNone","(II)Z"⟩) (n := 23) 127 (by decide +kernel))) ⟨by decide +kernel, by decide +kernel, by decide +kernel⟩ rfl (by decide +kernel : decode (zYf 69).2.1 16 = .ok (.invokevirtual 181, 3)))
theorem zf_zm_69_11 (env : List (Nat × Nat)) : zI9 69 zY_69 zm_69 env (19, 6, 13, 0, 0) 22 := zi_if_ne (off := 24) (t := 43) (by decide +kernel : decode zY_69.2.1 19 = .ok (.ifCond .ne 24, 3)) (by decide) (by decide +kernel)
theorem zf_zm_69_12 (env : List (Nat × Nat)) : zI9 69 zY_69 zm_69 env (22, 99, 0, 0, 0) 43 := zi_none
theorem zf_zm_69_13 (env : List (Nat × Nat)) : zI9 69 zY_69 zm_69 env (43, 2, 1, 0, 0) 44 := zi_iconst (by decide +kernel : decode zY_69.2.1 43 = .ok (.iconst 1, 1)) (by decide +kernel)
theorem zf_zm_69_14 (env : List (Nat × Nat)) : zI9 69 zY_69 zm_69 env (44, 7, 16, 0, 0) 47 := zi_goto (off := 4) (t := 48) (by decide +kernel : decode zY_69.2.1 44 = .ok (.goto 4, 3)) (by decide) (by decide +kernel)
theorem zf_zm_69_15 (env : List (Nat × Nat)) : zI9 69 zY_69 zm_69 env (47, 99, 0, 0, 0) 48 := zi_none
theorem zf_zm_69_16 (env : List (Nat × Nat)) : zI9 69 zY_69 zm_69 env (48, 2, 2, 0, 0) 49 := zi_iconst (by decide +kernel : decode zY_69.2.1 48 = .ok (.iconst 2, 1)) (by decide +kernel)
theorem zf_zm_69_17 (env : List (Nat × Nat)) : zC9 69 zm_69 env (49, 66, 44, 195, 3) := zi_call (by decide +kernel) (zr_V (i := 102) (n := 2) (q := ("TransportPairModel", zF_1, 23)) zX_ok rfl (zgood_44) (by decide +kernel) (zw_T zwd_250) (zw_T zwd_259) (zw_T zwd_260) rfl (zw_T (zt_sel (y := ⟨"TransportPairModel","fails","(ZI)Z"⟩) (n := 23) 102 (by decide +kernel))) ⟨by decide +kernel, by decide +kernel, by decide +kernel⟩ rfl (by decide +kernel : decode (zYf 69).2.1 49 = .ok (.invokevirtual 102, 3)))
theorem zf_zm_69_18 (env : List (Nat × Nat)) : zI9 69 zY_69 zm_69 env (52, 5, 21, 0, 0) 55 := zi_if_eq (off := 5) (t := 57) (by decide +kernel : decode zY_69.2.1 52 = .ok (.ifCond .eq 5, 3)) (by decide) (by decide +kernel)
theorem zf_zm_69_19 (env : List (Nat × Nat)) : zI9 69 zY_69 zm_69 env (55, 2, 0, 0, 0) 56 := zi_iconst (by decide +kernel : decode zY_69.2.1 55 = .ok (.iconst 0, 1)) (by decide +kernel)
theorem zf_zm_69_20 (env : List (Nat × Nat)) : zR9 69 env (56, 11, 0, 0, 0) := zi_iret (by decide +kernel : decode (zYf 69).2.1 56 = .ok (.ireturn, 1)) rfl
theorem zf_zm_69_21 (env : List (Nat × Nat)) : zI9 69 zY_69 zm_69 env (57, 99, 0, 0, 0) 0 := zi_none
set_option maxRecDepth 100000 in
theorem zc_zm_69 (env : List (Nat × Nat)) : zcode zX (z_QF zEX zcl zft) (z_zm zEX zX zWL zcl zft zYf) zYf zW zET zcl zft (zGv env) 69 zm_69 zm_69.1 := ⟨Or.inl ⟨1, zf_zm_69_0 env, zpc_c⟩,
  Or.inl ⟨2, zf_zm_69_1 env, zpc_c⟩,
  Or.inr (Or.inr (Or.inl ⟨zf_zm_69_2 env, zpc_c⟩)),
  Or.inl ⟨6, zf_zm_69_3 env, zpc_c⟩,
  Or.inr (Or.inr (Or.inl ⟨zf_zm_69_4 env, zpc_c⟩)),
  Or.inl ⟨12, zf_zm_69_5 env, zpc_c⟩,
  Or.inl ⟨13, zf_zm_69_6 env, zpc_c⟩,
  Or.inl ⟨14, zf_zm_69_7 env, zpc_c⟩,
  Or.inl ⟨15, zf_zm_69_8 env, zpc_c⟩,
  Or.inl ⟨16, zf_zm_69_9 env, zpc_c⟩,
  Or.inr (Or.inr (Or.inl ⟨zf_zm_69_10 env, zpc_c⟩)),
  Or.inl ⟨22, zf_zm_69_11 env, zpc_c⟩,
  Or.inl ⟨43, zf_zm_69_12 env, zpc_c⟩,
  Or.inl ⟨44, zf_zm_69_13 env, zpc_c⟩,
  Or.inl ⟨47, zf_zm_69_14 env, zpc_c⟩,
  Or.inl ⟨48, zf_zm_69_15 env, zpc_c⟩,
  Or.inl ⟨49, zf_zm_69_16 env, zpc_c⟩,
  Or.inr (Or.inr (Or.inl ⟨zf_zm_69_17 env, zpc_c⟩)),
  Or.inl ⟨55, zf_zm_69_18 env, zpc_c⟩,
  Or.inl ⟨56, zf_zm_69_19 env, zpc_c⟩,
  Or.inr (Or.inl (zf_zm_69_20 env)),
  Or.inl ⟨0, zf_zm_69_21 env, zpc_n⟩, trivial⟩
theorem zf_zm_70_0 (env : List (Nat × Nat)) : zI9 70 zY_70 zm_70 env (0, 0, 0, 0, 0) 1 := zi_aload_n (by decide +kernel : decode zY_70.2.1 0 = .ok (.aload_n 0, 1)) rfl
theorem zf_zm_70_1 (env : List (Nat × Nat)) : zI9 70 zY_70 zm_70 env (1, 63, 1, 0, 0) 2 := zi_iload_n (by decide +kernel : decode zY_70.2.1 1 = .ok (.iload_n 1, 1)) rfl
theorem zf_zm_70_2 (env : List (Nat × Nat)) : zC9 70 zm_70 env (2, 66, 45, 65, 0) := zi_call (by decide +kernel) (zr_S (i := 106) zX_ok rfl (zgood_45) (by decide +kernel) (zw_T zwd_250) (zw_T zwd_261) (zw_T zwd_262) ⟨by decide +kernel, by decide +kernel, by decide +kernel⟩ (by decide +kernel : decode (zYf 70).2.1 2 = .ok (.invokestatic 106, 3)))
theorem zf_zm_70_3 (env : List (Nat × Nat)) : zI9 70 zY_70 zm_70 env (5, 6, 9, 0, 0) 8 := zi_if_ne (off := 13) (t := 18) (by decide +kernel : decode zY_70.2.1 5 = .ok (.ifCond .ne 13, 3)) (by decide) (by decide +kernel)
theorem zf_zm_70_4 (env : List (Nat × Nat)) : zI9 70 zY_70 zm_70 env (8, 63, 2, 0, 0) 9 := zi_iload_n (by decide +kernel : decode zY_70.2.1 8 = .ok (.iload_n 2, 1)) rfl
theorem zf_zm_70_5 (env : List (Nat × Nat)) : zI9 70 zY_70 zm_70 env (9, 22, 9, 0, 0) 12 := zi_if_lt (off := 9) (t := 18) (by decide +kernel : decode zY_70.2.1 9 = .ok (.ifCond .lt 9, 3)) (by decide) (by decide +kernel)
theorem zf_zm_70_6 (env : List (Nat × Nat)) : zI9 70 zY_70 zm_70 env (12, 63, 2, 0, 0) 13 := zi_iload_n (by decide +kernel : decode zY_70.2.1 12 = .ok (.iload_n 2, 1)) rfl
theorem zf_zm_70_7 (env : List (Nat × Nat)) : zI9 70 zY_70 zm_70 env (13, 2, 9, 0, 0) 15 := zi_bipush (by decide +kernel : decode zY_70.2.1 13 = .ok (.bipush 9, 2)) (by decide +kernel)
theorem zf_zm_70_8 (env : List (Nat × Nat)) : zI9 70 zY_70 zm_70 env (15, 27, 11, 0, 0) 18 := zi_icmp_le (off := 7) (t := 22) (by decide +kernel : decode zY_70.2.1 15 = .ok (.if_icmp .le 7, 3)) (by decide) (by decide +kernel)
theorem zf_zm_70_9 (env : List (Nat × Nat)) : zI9 70 zY_70 zm_70 env (18, 2, 1, 0, 0) 19 := zi_iconst (by decide +kernel : decode zY_70.2.1 18 = .ok (.iconst 1, 1)) (by decide +kernel)
theorem zf_zm_70_10 (env : List (Nat × Nat)) : zI9 70 zY_70 zm_70 env (19, 7, 12, 0, 0) 22 := zi_goto (off := 4) (t := 23) (by decide +kernel : decode zY_70.2.1 19 = .ok (.goto 4, 3)) (by decide) (by decide +kernel)
theorem zf_zm_70_11 (env : List (Nat × Nat)) : zI9 70 zY_70 zm_70 env (22, 2, 0, 0, 0) 23 := zi_iconst (by decide +kernel : decode zY_70.2.1 22 = .ok (.iconst 0, 1)) (by decide +kernel)
theorem zf_zm_70_12 (env : List (Nat × Nat)) : zI9 70 zY_70 zm_70 env (23, 2, 1, 0, 0) 24 := zi_iconst (by decide +kernel : decode zY_70.2.1 23 = .ok (.iconst 1, 1)) (by decide +kernel)
theorem zf_zm_70_13 (env : List (Nat × Nat)) : zC9 70 zm_70 env (24, 66, 44, 195, 3) := zi_call (by decide +kernel) (zr_V (i := 102) (n := 2) (q := ("TransportPairModel", zF_1, 23)) zX_ok rfl (zgood_44) (by decide +kernel) (zw_T zwd_250) (zw_T zwd_259) (zw_T zwd_260) rfl (zw_T (zt_sel (y := ⟨"TransportPairModel","fails","(ZI)Z"⟩) (n := 23) 102 (by decide +kernel))) ⟨by decide +kernel, by decide +kernel, by decide +kernel⟩ rfl (by decide +kernel : decode (zYf 70).2.1 24 = .ok (.invokevirtual 102, 3)))
theorem zf_zm_70_14 (env : List (Nat × Nat)) : zI9 70 zY_70 zm_70 env (27, 5, 17, 0, 0) 30 := zi_if_eq (off := 5) (t := 32) (by decide +kernel : decode zY_70.2.1 27 = .ok (.ifCond .eq 5, 3)) (by decide) (by decide +kernel)
theorem zf_zm_70_15 (env : List (Nat × Nat)) : zI9 70 zY_70 zm_70 env (30, 2, 0, 0, 0) 31 := zi_iconst (by decide +kernel : decode zY_70.2.1 30 = .ok (.iconst 0, 1)) (by decide +kernel)
theorem zf_zm_70_16 (env : List (Nat × Nat)) : zR9 70 env (31, 11, 0, 0, 0) := zi_iret (by decide +kernel : decode (zYf 70).2.1 31 = .ok (.ireturn, 1)) rfl
theorem zf_zm_70_17 (env : List (Nat × Nat)) : zI9 70 zY_70 zm_70 env (32, 0, 0, 0, 0) 33 := zi_aload_n (by decide +kernel : decode zY_70.2.1 32 = .ok (.aload_n 0, 1)) rfl
theorem zf_zm_70_18 (env : List (Nat × Nat)) : zI9 70 zY_70 zm_70 env (33, 1, 1, 7, 2) 36 := zi_getf (i := 37) (N := 23) (C := "TransportPairModel") (ref := "TransportPairModel") (T := zF_1) (by decide +kernel : decode zY_70.2.1 33 = .ok (.getfield 37, 3)) rfl zuw_1 (by decide) (zw_T zwd_231) rfl
theorem zf_zm_70_19 (env : List (Nat × Nat)) : zI9 70 zY_70 zm_70 env (36, 63, 1, 0, 0) 37 := zi_iload_n (by decide +kernel : decode zY_70.2.1 36 = .ok (.iload_n 1, 1)) rfl
theorem zf_zm_70_20 (env : List (Nat × Nat)) : zI9 70 zY_70 zm_70 env (37, 19, 0, 0, 0) 38 := zi_aald zft_all (by decide +kernel : decode zY_70.2.1 37 = .ok (.aaload, 1))
theorem zf_zm_70_21 (env : List (Nat × Nat)) : zI9 70 zY_70 zm_70 env (38, 65, 3, 0, 0) 39 := zi_astore_n (by decide +kernel : decode zY_70.2.1 38 = .ok (.astore_n 3, 1)) rfl (by decide)
theorem zf_zm_70_22 (env : List (Nat × Nat)) : zI9 70 zY_70 zm_70 env (39, 63, 2, 0, 0) 40 := zi_iload_n (by decide +kernel : decode zY_70.2.1 39 = .ok (.iload_n 2, 1)) rfl
theorem zf_zm_70_23 (env : List (Nat × Nat)) : zI9 70 zY_70 zm_70 env (40, 40, 0, 0, 0) 92 := zi_switch (df := 72) (lo := 0) (tg := [24, 27, 30, 37, 43, 47, 51, 54, 57]) (by decide +kernel : decode zY_70.2.1 40 = .ok (.tableswitch 138 0 8 #[52, 57, 62, 78, 91, 99, 107, 112, 117], 52)) rfl (by decide) (by decide +kernel) (by decide +kernel)
theorem zf_zm_70_24 (env : List (Nat × Nat)) : zI9 70 zY_70 zm_70 env (92, 0, 3, 0, 0) 93 := zi_aload_n (by decide +kernel : decode zY_70.2.1 92 = .ok (.aload_n 3, 1)) rfl
theorem zf_zm_70_25 (env : List (Nat × Nat)) : zI9 70 zY_70 zm_70 env (93, 1, 18, 8, 0) 96 := zi_getfN (i := 110) (N := 53) (C := "TransportPairModel$Side") (ref := "TransportPairModel$Side") (T := zF_18) (by decide +kernel : decode zY_70.2.1 93 = .ok (.getfield 110, 3)) rfl zuw_18 (by decide) (zw_N zwd_264) rfl
theorem zf_zm_70_26 (env : List (Nat × Nat)) : zR9 70 env (96, 11, 0, 0, 0) := zi_iret (by decide +kernel : decode (zYf 70).2.1 96 = .ok (.ireturn, 1)) rfl
theorem zf_zm_70_27 (env : List (Nat × Nat)) : zI9 70 zY_70 zm_70 env (97, 0, 3, 0, 0) 98 := zi_aload_n (by decide +kernel : decode zY_70.2.1 97 = .ok (.aload_n 3, 1)) rfl
theorem zf_zm_70_28 (env : List (Nat × Nat)) : zI9 70 zY_70 zm_70 env (98, 1, 18, 9, 0) 101 := zi_getfN (i := 276) (N := 53) (C := "TransportPairModel$Side") (ref := "TransportPairModel$Side") (T := zF_18) (by decide +kernel : decode zY_70.2.1 98 = .ok (.getfield 276, 3)) rfl zuw_18 (by decide) (zw_N zwd_295) rfl
theorem zf_zm_70_29 (env : List (Nat × Nat)) : zR9 70 env (101, 11, 0, 0, 0) := zi_iret (by decide +kernel : decode (zYf 70).2.1 101 = .ok (.ireturn, 1)) rfl
theorem zf_zm_70_30 (env : List (Nat × Nat)) : zI9 70 zY_70 zm_70 env (102, 0, 3, 0, 0) 103 := zi_aload_n (by decide +kernel : decode zY_70.2.1 102 = .ok (.aload_n 3, 1)) rfl
theorem zf_zm_70_31 (env : List (Nat × Nat)) : zI9 70 zY_70 zm_70 env (103, 1, 18, 4, 2) 106 := zi_getfN (i := 279) (N := 53) (C := "TransportPairModel$Side") (ref := "TransportPairModel$Side") (T := zF_18) (by decide +kernel : decode zY_70.2.1 103 = .ok (.getfield 279, 3)) rfl zuw_18 (by decide) (zw_N zwd_296) rfl
theorem zf_zm_70_32 (env : List (Nat × Nat)) : zI9 70 zY_70 zm_70 env (106, 1, 13, 1, 3) 109 := zi_getfN (i := 283) (N := 38) (C := "TransportPairModel$Book") (ref := "TransportPairModel$Book") (T := zF_13) (by decide +kernel : decode zY_70.2.1 106 = .ok (.getfield 283, 3)) rfl zuw_13 (by decide) (zw_N zwd_297) rfl
theorem zf_zm_70_33 (env : List (Nat × Nat)) : zI9 70 zY_70 zm_70 env (109, 5, 35, 0, 0) 112 := zi_if_eq (off := 7) (t := 116) (by decide +kernel : decode zY_70.2.1 109 = .ok (.ifCond .eq 7, 3)) (by decide) (by decide +kernel)
theorem zf_zm_70_34 (env : List (Nat × Nat)) : zI9 70 zY_70 zm_70 env (112, 99, 0, 0, 0) 116 := zi_none
theorem zf_zm_70_35 (env : List (Nat × Nat)) : zI9 70 zY_70 zm_70 env (116, 2, 0, 0, 0) 117 := zi_iconst (by decide +kernel : decode zY_70.2.1 116 = .ok (.iconst 0, 1)) (by decide +kernel)
theorem zf_zm_70_36 (env : List (Nat × Nat)) : zR9 70 env (117, 11, 0, 0, 0) := zi_iret (by decide +kernel : decode (zYf 70).2.1 117 = .ok (.ireturn, 1)) rfl
theorem zf_zm_70_37 (env : List (Nat × Nat)) : zI9 70 zY_70 zm_70 env (118, 0, 3, 0, 0) 119 := zi_aload_n (by decide +kernel : decode zY_70.2.1 118 = .ok (.aload_n 3, 1)) rfl
theorem zf_zm_70_38 (env : List (Nat × Nat)) : zI9 70 zY_70 zm_70 env (119, 1, 18, 10, 3) 122 := zi_getfN (i := 288) (N := 53) (C := "TransportPairModel$Side") (ref := "TransportPairModel$Side") (T := zF_18) (by decide +kernel : decode zY_70.2.1 119 = .ok (.getfield 288, 3)) rfl zuw_18 (by decide) (zw_N zwd_298) rfl
theorem zf_zm_70_39 (env : List (Nat × Nat)) : zI9 70 zY_70 zm_70 env (122, 5, 41, 0, 0) 125 := zi_if_eq (off := 7) (t := 129) (by decide +kernel : decode zY_70.2.1 122 = .ok (.ifCond .eq 7, 3)) (by decide) (by decide +kernel)
theorem zf_zm_70_40 (env : List (Nat × Nat)) : zI9 70 zY_70 zm_70 env (125, 99, 0, 0, 0) 129 := zi_none
theorem zf_zm_70_41 (env : List (Nat × Nat)) : zI9 70 zY_70 zm_70 env (129, 2, 0, 0, 0) 130 := zi_iconst (by decide +kernel : decode zY_70.2.1 129 = .ok (.iconst 0, 1)) (by decide +kernel)
theorem zf_zm_70_42 (env : List (Nat × Nat)) : zR9 70 env (130, 11, 0, 0, 0) := zi_iret (by decide +kernel : decode (zYf 70).2.1 130 = .ok (.ireturn, 1)) rfl
theorem zf_zm_70_43 (env : List (Nat × Nat)) : zI9 70 zY_70 zm_70 env (131, 0, 3, 0, 0) 132 := zi_aload_n (by decide +kernel : decode zY_70.2.1 131 = .ok (.aload_n 3, 1)) rfl
theorem zf_zm_70_44 (env : List (Nat × Nat)) : zI9 70 zY_70 zm_70 env (132, 1, 18, 3, 2) 135 := zi_getfN (i := 113) (N := 53) (C := "TransportPairModel$Side") (ref := "TransportPairModel$Side") (T := zF_18) (by decide +kernel : decode zY_70.2.1 132 = .ok (.getfield 113, 3)) rfl zuw_18 (by decide) (zw_N zwd_299) rfl
theorem zf_zm_70_45 (env : List (Nat × Nat)) : zI9 70 zY_70 zm_70 env (135, 1, 16, 6, 0) 138 := zi_getfN (i := 291) (N := 23) (C := "TransportPairModel$Greet") (ref := "TransportPairModel$Greet") (T := zF_16) (by decide +kernel : decode zY_70.2.1 135 = .ok (.getfield 291, 3)) rfl zuw_16 (by decide) (zw_N zwd_300) rfl
theorem zf_zm_70_46 (env : List (Nat × Nat)) : zR9 70 env (138, 11, 0, 0, 0) := zi_iret (by decide +kernel : decode (zYf 70).2.1 138 = .ok (.ireturn, 1)) rfl
theorem zf_zm_70_47 (env : List (Nat × Nat)) : zI9 70 zY_70 zm_70 env (139, 0, 3, 0, 0) 140 := zi_aload_n (by decide +kernel : decode zY_70.2.1 139 = .ok (.aload_n 3, 1)) rfl
theorem zf_zm_70_48 (env : List (Nat × Nat)) : zI9 70 zY_70 zm_70 env (140, 1, 18, 3, 2) 143 := zi_getfN (i := 113) (N := 53) (C := "TransportPairModel$Side") (ref := "TransportPairModel$Side") (T := zF_18) (by decide +kernel : decode zY_70.2.1 140 = .ok (.getfield 113, 3)) rfl zuw_18 (by decide) (zw_N zwd_299) rfl
theorem zf_zm_70_49 (env : List (Nat × Nat)) : zI9 70 zY_70 zm_70 env (143, 1, 16, 18, 0) 146 := zi_getfN (i := 294) (N := 23) (C := "TransportPairModel$Greet") (ref := "TransportPairModel$Greet") (T := zF_16) (by decide +kernel : decode zY_70.2.1 143 = .ok (.getfield 294, 3)) rfl zuw_16 (by decide) (zw_N zwd_301) rfl
theorem zf_zm_70_50 (env : List (Nat × Nat)) : zR9 70 env (146, 11, 0, 0, 0) := zi_iret (by decide +kernel : decode (zYf 70).2.1 146 = .ok (.ireturn, 1)) rfl
theorem zf_zm_70_51 (env : List (Nat × Nat)) : zI9 70 zY_70 zm_70 env (147, 0, 3, 0, 0) 148 := zi_aload_n (by decide +kernel : decode zY_70.2.1 147 = .ok (.aload_n 3, 1)) rfl
theorem zf_zm_70_52 (env : List (Nat × Nat)) : zI9 70 zY_70 zm_70 env (148, 1, 18, 11, 0) 151 := zi_getfN (i := 257) (N := 53) (C := "TransportPairModel$Side") (ref := "TransportPairModel$Side") (T := zF_18) (by decide +kernel : decode zY_70.2.1 148 = .ok (.getfield 257, 3)) rfl zuw_18 (by decide) (zw_N zwd_302) rfl
theorem zf_zm_70_53 (env : List (Nat × Nat)) : zR9 70 env (151, 11, 0, 0, 0) := zi_iret (by decide +kernel : decode (zYf 70).2.1 151 = .ok (.ireturn, 1)) rfl
theorem zf_zm_70_54 (env : List (Nat × Nat)) : zI9 70 zY_70 zm_70 env (152, 0, 3, 0, 0) 153 := zi_aload_n (by decide +kernel : decode zY_70.2.1 152 = .ok (.aload_n 3, 1)) rfl
theorem zf_zm_70_55 (env : List (Nat × Nat)) : zI9 70 zY_70 zm_70 env (153, 1, 18, 12, 0) 156 := zi_getfN (i := 297) (N := 53) (C := "TransportPairModel$Side") (ref := "TransportPairModel$Side") (T := zF_18) (by decide +kernel : decode zY_70.2.1 153 = .ok (.getfield 297, 3)) rfl zuw_18 (by decide) (zw_N zwd_303) rfl
theorem zf_zm_70_56 (env : List (Nat × Nat)) : zR9 70 env (156, 11, 0, 0, 0) := zi_iret (by decide +kernel : decode (zYf 70).2.1 156 = .ok (.ireturn, 1)) rfl
theorem zf_zm_70_57 (env : List (Nat × Nat)) : zI9 70 zY_70 zm_70 env (157, 0, 3, 0, 0) 158 := zi_aload_n (by decide +kernel : decode zY_70.2.1 157 = .ok (.aload_n 3, 1)) rfl
theorem zf_zm_70_58 (env : List (Nat × Nat)) : zI9 70 zY_70 zm_70 env (158, 1, 18, 34, 2) 161 := zi_getfN (i := 300) (N := 53) (C := "TransportPairModel$Side") (ref := "TransportPairModel$Side") (T := zF_18) (by decide +kernel : decode zY_70.2.1 158 = .ok (.getfield 300, 3)) rfl zuw_18 (by decide) (zw_N zwd_304) rfl
theorem zf_zm_70_59 (env : List (Nat × Nat)) : zI9 70 zY_70 zm_70 env (161, 2, 0, 0, 0) 162 := zi_iconst (by decide +kernel : decode zY_70.2.1 161 = .ok (.iconst 0, 1)) (by decide +kernel)
theorem zf_zm_70_60 (env : List (Nat × Nat)) : zI9 70 zY_70 zm_70 env (162, 8, 0, 0, 0) 163 := zi_iald (zscr_ok (by decide +kernel : decode zY_70.2.1 162 = .ok (.iaload, 1))) (by decide +kernel : decode zY_70.2.1 162 = .ok (.iaload, 1))
theorem zf_zm_70_61 (env : List (Nat × Nat)) : zI9 70 zY_70 zm_70 env (163, 0, 3, 0, 0) 164 := zi_aload_n (by decide +kernel : decode zY_70.2.1 163 = .ok (.aload_n 3, 1)) rfl
theorem zf_zm_70_62 (env : List (Nat × Nat)) : zI9 70 zY_70 zm_70 env (164, 1, 18, 34, 2) 167 := zi_getfN (i := 300) (N := 53) (C := "TransportPairModel$Side") (ref := "TransportPairModel$Side") (T := zF_18) (by decide +kernel : decode zY_70.2.1 164 = .ok (.getfield 300, 3)) rfl zuw_18 (by decide) (zw_N zwd_304) rfl
theorem zf_zm_70_63 (env : List (Nat × Nat)) : zI9 70 zY_70 zm_70 env (167, 2, 1, 0, 0) 168 := zi_iconst (by decide +kernel : decode zY_70.2.1 167 = .ok (.iconst 1, 1)) (by decide +kernel)
theorem zf_zm_70_64 (env : List (Nat × Nat)) : zI9 70 zY_70 zm_70 env (168, 8, 0, 0, 0) 169 := zi_iald (zscr_ok (by decide +kernel : decode zY_70.2.1 168 = .ok (.iaload, 1))) (by decide +kernel : decode zY_70.2.1 168 = .ok (.iaload, 1))
theorem zf_zm_70_65 (env : List (Nat × Nat)) : zI9 70 zY_70 zm_70 env (169, 9, 0, 0, 0) 170 := zi_iadd (by decide +kernel : decode zY_70.2.1 169 = .ok (.iadd, 1))
theorem zf_zm_70_66 (env : List (Nat × Nat)) : zI9 70 zY_70 zm_70 env (170, 0, 3, 0, 0) 171 := zi_aload_n (by decide +kernel : decode zY_70.2.1 170 = .ok (.aload_n 3, 1)) rfl
theorem zf_zm_70_67 (env : List (Nat × Nat)) : zI9 70 zY_70 zm_70 env (171, 1, 18, 34, 2) 174 := zi_getfN (i := 300) (N := 53) (C := "TransportPairModel$Side") (ref := "TransportPairModel$Side") (T := zF_18) (by decide +kernel : decode zY_70.2.1 171 = .ok (.getfield 300, 3)) rfl zuw_18 (by decide) (zw_N zwd_304) rfl
theorem zf_zm_70_68 (env : List (Nat × Nat)) : zI9 70 zY_70 zm_70 env (174, 2, 2, 0, 0) 175 := zi_iconst (by decide +kernel : decode zY_70.2.1 174 = .ok (.iconst 2, 1)) (by decide +kernel)
theorem zf_zm_70_69 (env : List (Nat × Nat)) : zI9 70 zY_70 zm_70 env (175, 8, 0, 0, 0) 176 := zi_iald (zscr_ok (by decide +kernel : decode zY_70.2.1 175 = .ok (.iaload, 1))) (by decide +kernel : decode zY_70.2.1 175 = .ok (.iaload, 1))
theorem zf_zm_70_70 (env : List (Nat × Nat)) : zI9 70 zY_70 zm_70 env (176, 9, 0, 0, 0) 177 := zi_iadd (by decide +kernel : decode zY_70.2.1 176 = .ok (.iadd, 1))
theorem zf_zm_70_71 (env : List (Nat × Nat)) : zR9 70 env (177, 11, 0, 0, 0) := zi_iret (by decide +kernel : decode (zYf 70).2.1 177 = .ok (.ireturn, 1)) rfl
theorem zf_zm_70_72 (env : List (Nat × Nat)) : zI9 70 zY_70 zm_70 env (178, 0, 3, 0, 0) 179 := zi_aload_n (by decide +kernel : decode zY_70.2.1 178 = .ok (.aload_n 3, 1)) rfl
theorem zf_zm_70_73 (env : List (Nat × Nat)) : zI9 70 zY_70 zm_70 env (179, 1, 18, 45, 2) 182 := zi_getfN (i := 303) (N := 53) (C := "TransportPairModel$Side") (ref := "TransportPairModel$Side") (T := zF_18) (by decide +kernel : decode zY_70.2.1 179 = .ok (.getfield 303, 3)) rfl zuw_18 (by decide) (zw_N zwd_305) rfl
theorem zf_zm_70_74 (env : List (Nat × Nat)) : zI9 70 zY_70 zm_70 env (182, 2, 0, 0, 0) 183 := zi_iconst (by decide +kernel : decode zY_70.2.1 182 = .ok (.iconst 0, 1)) (by decide +kernel)
theorem zf_zm_70_75 (env : List (Nat × Nat)) : zI9 70 zY_70 zm_70 env (183, 19, 0, 0, 0) 184 := zi_aald zft_all (by decide +kernel : decode zY_70.2.1 183 = .ok (.aaload, 1))
theorem zf_zm_70_76 (env : List (Nat × Nat)) : zI9 70 zY_70 zm_70 env (184, 1, 14, 0, 0) 187 := zi_getfN (i := 307) (N := 6) (C := "TransportPairModel$Cargo") (ref := "TransportPairModel$Cargo") (T := zF_14) (by decide +kernel : decode zY_70.2.1 184 = .ok (.getfield 307, 3)) rfl zuw_14 (by decide) (zw_N zwd_306) rfl
theorem zf_zm_70_77 (env : List (Nat × Nat)) : zI9 70 zY_70 zm_70 env (187, 0, 3, 0, 0) 188 := zi_aload_n (by decide +kernel : decode zY_70.2.1 187 = .ok (.aload_n 3, 1)) rfl
theorem zf_zm_70_78 (env : List (Nat × Nat)) : zI9 70 zY_70 zm_70 env (188, 1, 18, 45, 2) 191 := zi_getfN (i := 303) (N := 53) (C := "TransportPairModel$Side") (ref := "TransportPairModel$Side") (T := zF_18) (by decide +kernel : decode zY_70.2.1 188 = .ok (.getfield 303, 3)) rfl zuw_18 (by decide) (zw_N zwd_305) rfl
theorem zf_zm_70_79 (env : List (Nat × Nat)) : zI9 70 zY_70 zm_70 env (191, 2, 1, 0, 0) 192 := zi_iconst (by decide +kernel : decode zY_70.2.1 191 = .ok (.iconst 1, 1)) (by decide +kernel)
theorem zf_zm_70_80 (env : List (Nat × Nat)) : zI9 70 zY_70 zm_70 env (192, 19, 0, 0, 0) 193 := zi_aald zft_all (by decide +kernel : decode zY_70.2.1 192 = .ok (.aaload, 1))
theorem zf_zm_70_81 (env : List (Nat × Nat)) : zI9 70 zY_70 zm_70 env (193, 1, 14, 0, 0) 196 := zi_getfN (i := 307) (N := 6) (C := "TransportPairModel$Cargo") (ref := "TransportPairModel$Cargo") (T := zF_14) (by decide +kernel : decode zY_70.2.1 193 = .ok (.getfield 307, 3)) rfl zuw_14 (by decide) (zw_N zwd_306) rfl
theorem zf_zm_70_82 (env : List (Nat × Nat)) : zI9 70 zY_70 zm_70 env (196, 9, 0, 0, 0) 197 := zi_iadd (by decide +kernel : decode zY_70.2.1 196 = .ok (.iadd, 1))
theorem zf_zm_70_83 (env : List (Nat × Nat)) : zI9 70 zY_70 zm_70 env (197, 0, 3, 0, 0) 198 := zi_aload_n (by decide +kernel : decode zY_70.2.1 197 = .ok (.aload_n 3, 1)) rfl
theorem zf_zm_70_84 (env : List (Nat × Nat)) : zI9 70 zY_70 zm_70 env (198, 1, 18, 45, 2) 201 := zi_getfN (i := 303) (N := 53) (C := "TransportPairModel$Side") (ref := "TransportPairModel$Side") (T := zF_18) (by decide +kernel : decode zY_70.2.1 198 = .ok (.getfield 303, 3)) rfl zuw_18 (by decide) (zw_N zwd_305) rfl
theorem zf_zm_70_85 (env : List (Nat × Nat)) : zI9 70 zY_70 zm_70 env (201, 2, 2, 0, 0) 202 := zi_iconst (by decide +kernel : decode zY_70.2.1 201 = .ok (.iconst 2, 1)) (by decide +kernel)
theorem zf_zm_70_86 (env : List (Nat × Nat)) : zI9 70 zY_70 zm_70 env (202, 19, 0, 0, 0) 203 := zi_aald zft_all (by decide +kernel : decode zY_70.2.1 202 = .ok (.aaload, 1))
theorem zf_zm_70_87 (env : List (Nat × Nat)) : zI9 70 zY_70 zm_70 env (203, 1, 14, 0, 0) 206 := zi_getfN (i := 307) (N := 6) (C := "TransportPairModel$Cargo") (ref := "TransportPairModel$Cargo") (T := zF_14) (by decide +kernel : decode zY_70.2.1 203 = .ok (.getfield 307, 3)) rfl zuw_14 (by decide) (zw_N zwd_306) rfl
theorem zf_zm_70_88 (env : List (Nat × Nat)) : zI9 70 zY_70 zm_70 env (206, 9, 0, 0, 0) 207 := zi_iadd (by decide +kernel : decode zY_70.2.1 206 = .ok (.iadd, 1))
theorem zf_zm_70_89 (env : List (Nat × Nat)) : zR9 70 env (207, 11, 0, 0, 0) := zi_iret (by decide +kernel : decode (zYf 70).2.1 207 = .ok (.ireturn, 1)) rfl
set_option maxRecDepth 100000 in
theorem zc_zm_70 (env : List (Nat × Nat)) : zcode zX (z_QF zEX zcl zft) (z_zm zEX zX zWL zcl zft zYf) zYf zW zET zcl zft (zGv env) 70 zm_70 zm_70.1 := ⟨Or.inl ⟨1, zf_zm_70_0 env, zpc_c⟩,
  Or.inl ⟨2, zf_zm_70_1 env, zpc_c⟩,
  Or.inr (Or.inr (Or.inl ⟨zf_zm_70_2 env, zpc_c⟩)),
  Or.inl ⟨8, zf_zm_70_3 env, zpc_c⟩,
  Or.inl ⟨9, zf_zm_70_4 env, zpc_c⟩,
  Or.inl ⟨12, zf_zm_70_5 env, zpc_c⟩,
  Or.inl ⟨13, zf_zm_70_6 env, zpc_c⟩,
  Or.inl ⟨15, zf_zm_70_7 env, zpc_c⟩,
  Or.inl ⟨18, zf_zm_70_8 env, zpc_c⟩,
  Or.inl ⟨19, zf_zm_70_9 env, zpc_c⟩,
  Or.inl ⟨22, zf_zm_70_10 env, zpc_c⟩,
  Or.inl ⟨23, zf_zm_70_11 env, zpc_c⟩,
  Or.inl ⟨24, zf_zm_70_12 env, zpc_c⟩,
  Or.inr (Or.inr (Or.inl ⟨zf_zm_70_13 env, zpc_c⟩)),
  Or.inl ⟨30, zf_zm_70_14 env, zpc_c⟩,
  Or.inl ⟨31, zf_zm_70_15 env, zpc_c⟩,
  Or.inr (Or.inl (zf_zm_70_16 env)),
  Or.inl ⟨33, zf_zm_70_17 env, zpc_c⟩,
  Or.inl ⟨36, zf_zm_70_18 env, zpc_c⟩,
  Or.inl ⟨37, zf_zm_70_19 env, zpc_c⟩,
  Or.inl ⟨38, zf_zm_70_20 env, zpc_c⟩,
  Or.inl ⟨39, zf_zm_70_21 env, zpc_c⟩,
  Or.inl ⟨40, zf_zm_70_22 env, zpc_c⟩,
  Or.inl ⟨92, zf_zm_70_23 env, zpc_c⟩,
  Or.inl ⟨93, zf_zm_70_24 env, zpc_c⟩,
  Or.inl ⟨96, zf_zm_70_25 env, zpc_c⟩,
  Or.inr (Or.inl (zf_zm_70_26 env)),
  Or.inl ⟨98, zf_zm_70_27 env, zpc_c⟩,
  Or.inl ⟨101, zf_zm_70_28 env, zpc_c⟩,
  Or.inr (Or.inl (zf_zm_70_29 env)),
  Or.inl ⟨103, zf_zm_70_30 env, zpc_c⟩,
  Or.inl ⟨106, zf_zm_70_31 env, zpc_c⟩,
  Or.inl ⟨109, zf_zm_70_32 env, zpc_c⟩,
  Or.inl ⟨112, zf_zm_70_33 env, zpc_c⟩,
  Or.inl ⟨116, zf_zm_70_34 env, zpc_c⟩,
  Or.inl ⟨117, zf_zm_70_35 env, zpc_c⟩,
  Or.inr (Or.inl (zf_zm_70_36 env)),
  Or.inl ⟨119, zf_zm_70_37 env, zpc_c⟩,
  Or.inl ⟨122, zf_zm_70_38 env, zpc_c⟩,
  Or.inl ⟨125, zf_zm_70_39 env, zpc_c⟩,
  Or.inl ⟨129, zf_zm_70_40 env, zpc_c⟩,
  Or.inl ⟨130, zf_zm_70_41 env, zpc_c⟩,
  Or.inr (Or.inl (zf_zm_70_42 env)),
  Or.inl ⟨132, zf_zm_70_43 env, zpc_c⟩,
  Or.inl ⟨135, zf_zm_70_44 env, zpc_c⟩,
  Or.inl ⟨138, zf_zm_70_45 env, zpc_c⟩,
  Or.inr (Or.inl (zf_zm_70_46 env)),
  Or.inl ⟨140, zf_zm_70_47 env, zpc_c⟩,
  Or.inl ⟨143, zf_zm_70_48 env, zpc_c⟩,
  Or.inl ⟨146, zf_zm_70_49 env, zpc_c⟩,
  Or.inr (Or.inl (zf_zm_70_50 env)),
  Or.inl ⟨148, zf_zm_70_51 env, zpc_c⟩,
  Or.inl ⟨151, zf_zm_70_52 env, zpc_c⟩,
  Or.inr (Or.inl (zf_zm_70_53 env)),
  Or.inl ⟨153, zf_zm_70_54 env, zpc_c⟩,
  Or.inl ⟨156, zf_zm_70_55 env, zpc_c⟩,
  Or.inr (Or.inl (zf_zm_70_56 env)),
  Or.inl ⟨158, zf_zm_70_57 env, zpc_c⟩,
  Or.inl ⟨161, zf_zm_70_58 env, zpc_c⟩,
  Or.inl ⟨162, zf_zm_70_59 env, zpc_c⟩,
  Or.inl ⟨163, zf_zm_70_60 env, zpc_c⟩,
  Or.inl ⟨164, zf_zm_70_61 env, zpc_c⟩,
  Or.inl ⟨167, zf_zm_70_62 env, zpc_c⟩,
  Or.inl ⟨168, zf_zm_70_63 env, zpc_c⟩,
  Or.inl ⟨169, zf_zm_70_64 env, zpc_c⟩,
  Or.inl ⟨170, zf_zm_70_65 env, zpc_c⟩,
  Or.inl ⟨171, zf_zm_70_66 env, zpc_c⟩,
  Or.inl ⟨174, zf_zm_70_67 env, zpc_c⟩,
  Or.inl ⟨175, zf_zm_70_68 env, zpc_c⟩,
  Or.inl ⟨176, zf_zm_70_69 env, zpc_c⟩,
  Or.inl ⟨177, zf_zm_70_70 env, zpc_c⟩,
  Or.inr (Or.inl (zf_zm_70_71 env)),
  Or.inl ⟨179, zf_zm_70_72 env, zpc_c⟩,
  Or.inl ⟨182, zf_zm_70_73 env, zpc_c⟩,
  Or.inl ⟨183, zf_zm_70_74 env, zpc_c⟩,
  Or.inl ⟨184, zf_zm_70_75 env, zpc_c⟩,
  Or.inl ⟨187, zf_zm_70_76 env, zpc_c⟩,
  Or.inl ⟨188, zf_zm_70_77 env, zpc_c⟩,
  Or.inl ⟨191, zf_zm_70_78 env, zpc_c⟩,
  Or.inl ⟨192, zf_zm_70_79 env, zpc_c⟩,
  Or.inl ⟨193, zf_zm_70_80 env, zpc_c⟩,
  Or.inl ⟨196, zf_zm_70_81 env, zpc_c⟩,
  Or.inl ⟨197, zf_zm_70_82 env, zpc_c⟩,
  Or.inl ⟨198, zf_zm_70_83 env, zpc_c⟩,
  Or.inl ⟨201, zf_zm_70_84 env, zpc_c⟩,
  Or.inl ⟨202, zf_zm_70_85 env, zpc_c⟩,
  Or.inl ⟨203, zf_zm_70_86 env, zpc_c⟩,
  Or.inl ⟨206, zf_zm_70_87 env, zpc_c⟩,
  Or.inl ⟨207, zf_zm_70_88 env, zpc_c⟩,
  Or.inr (Or.inl (zf_zm_70_89 env)), trivial⟩
theorem zf_zm_71_0 (env : List (Nat × Nat)) : zI9 71 zY_71 zm_71 env (0, 0, 0, 0, 0) 1 := zi_aload_n (by decide +kernel : decode zY_71.2.1 0 = .ok (.aload_n 0, 1)) rfl
theorem zf_zm_71_1 (env : List (Nat × Nat)) : zI9 71 zY_71 zm_71 env (1, 63, 1, 0, 0) 2 := zi_iload_n (by decide +kernel : decode zY_71.2.1 1 = .ok (.iload_n 1, 1)) rfl
theorem zf_zm_71_2 (env : List (Nat × Nat)) : zC9 71 zm_71 env (2, 66, 45, 65, 0) := zi_call (by decide +kernel) (zr_S (i := 106) zX_ok rfl (zgood_45) (by decide +kernel) (zw_T zwd_250) (zw_T zwd_261) (zw_T zwd_262) ⟨by decide +kernel, by decide +kernel, by decide +kernel⟩ (by decide +kernel : decode (zYf 71).2.1 2 = .ok (.invokestatic 106, 3)))
theorem zf_zm_71_3 (env : List (Nat × Nat)) : zI9 71 zY_71 zm_71 env (5, 6, 9, 0, 0) 8 := zi_if_ne (off := 13) (t := 18) (by decide +kernel : decode zY_71.2.1 5 = .ok (.ifCond .ne 13, 3)) (by decide) (by decide +kernel)
theorem zf_zm_71_4 (env : List (Nat × Nat)) : zI9 71 zY_71 zm_71 env (8, 63, 2, 0, 0) 9 := zi_iload_n (by decide +kernel : decode zY_71.2.1 8 = .ok (.iload_n 2, 1)) rfl
theorem zf_zm_71_5 (env : List (Nat × Nat)) : zI9 71 zY_71 zm_71 env (9, 22, 9, 0, 0) 12 := zi_if_lt (off := 9) (t := 18) (by decide +kernel : decode zY_71.2.1 9 = .ok (.ifCond .lt 9, 3)) (by decide) (by decide +kernel)
theorem zf_zm_71_6 (env : List (Nat × Nat)) : zI9 71 zY_71 zm_71 env (12, 63, 2, 0, 0) 13 := zi_iload_n (by decide +kernel : decode zY_71.2.1 12 = .ok (.iload_n 2, 1)) rfl
theorem zf_zm_71_7 (env : List (Nat × Nat)) : zI9 71 zY_71 zm_71 env (13, 2, 10, 0, 0) 15 := zi_bipush (by decide +kernel : decode zY_71.2.1 13 = .ok (.bipush 10, 2)) (by decide +kernel)
theorem zf_zm_71_8 (env : List (Nat × Nat)) : zI9 71 zY_71 zm_71 env (15, 27, 11, 0, 0) 18 := zi_icmp_le (off := 7) (t := 22) (by decide +kernel : decode zY_71.2.1 15 = .ok (.if_icmp .le 7, 3)) (by decide) (by decide +kernel)
theorem zf_zm_71_9 (env : List (Nat × Nat)) : zI9 71 zY_71 zm_71 env (18, 2, 1, 0, 0) 19 := zi_iconst (by decide +kernel : decode zY_71.2.1 18 = .ok (.iconst 1, 1)) (by decide +kernel)
theorem zf_zm_71_10 (env : List (Nat × Nat)) : zI9 71 zY_71 zm_71 env (19, 7, 12, 0, 0) 22 := zi_goto (off := 4) (t := 23) (by decide +kernel : decode zY_71.2.1 19 = .ok (.goto 4, 3)) (by decide) (by decide +kernel)
theorem zf_zm_71_11 (env : List (Nat × Nat)) : zI9 71 zY_71 zm_71 env (22, 2, 0, 0, 0) 23 := zi_iconst (by decide +kernel : decode zY_71.2.1 22 = .ok (.iconst 0, 1)) (by decide +kernel)
theorem zf_zm_71_12 (env : List (Nat × Nat)) : zI9 71 zY_71 zm_71 env (23, 2, 1, 0, 0) 24 := zi_iconst (by decide +kernel : decode zY_71.2.1 23 = .ok (.iconst 1, 1)) (by decide +kernel)
theorem zf_zm_71_13 (env : List (Nat × Nat)) : zC9 71 zm_71 env (24, 66, 44, 195, 3) := zi_call (by decide +kernel) (zr_V (i := 102) (n := 2) (q := ("TransportPairModel", zF_1, 23)) zX_ok rfl (zgood_44) (by decide +kernel) (zw_T zwd_250) (zw_T zwd_259) (zw_T zwd_260) rfl (zw_T (zt_sel (y := ⟨"TransportPairModel","fails","(ZI)Z"⟩) (n := 23) 102 (by decide +kernel))) ⟨by decide +kernel, by decide +kernel, by decide +kernel⟩ rfl (by decide +kernel : decode (zYf 71).2.1 24 = .ok (.invokevirtual 102, 3)))
theorem zf_zm_71_14 (env : List (Nat × Nat)) : zI9 71 zY_71 zm_71 env (27, 5, 17, 0, 0) 30 := zi_if_eq (off := 7) (t := 34) (by decide +kernel : decode zY_71.2.1 27 = .ok (.ifCond .eq 7, 3)) (by decide) (by decide +kernel)
theorem zf_zm_71_15 (env : List (Nat × Nat)) : zI9 71 zY_71 zm_71 env (30, 2, 0, 0, 0) 31 := zi_iconst (by decide +kernel : decode zY_71.2.1 30 = .ok (.iconst 0, 1)) (by decide +kernel)
theorem zf_zm_71_16 (env : List (Nat × Nat)) : zI9 71 zY_71 zm_71 env (31, 7, 24, 0, 0) 34 := zi_goto (off := 16) (t := 47) (by decide +kernel : decode zY_71.2.1 31 = .ok (.goto 16, 3)) (by decide) (by decide +kernel)
theorem zf_zm_71_17 (env : List (Nat × Nat)) : zI9 71 zY_71 zm_71 env (34, 0, 0, 0, 0) 35 := zi_aload_n (by decide +kernel : decode zY_71.2.1 34 = .ok (.aload_n 0, 1)) rfl
theorem zf_zm_71_18 (env : List (Nat × Nat)) : zI9 71 zY_71 zm_71 env (35, 1, 1, 7, 2) 38 := zi_getf (i := 37) (N := 23) (C := "TransportPairModel") (ref := "TransportPairModel") (T := zF_1) (by decide +kernel : decode zY_71.2.1 35 = .ok (.getfield 37, 3)) rfl zuw_1 (by decide) (zw_T zwd_231) rfl
theorem zf_zm_71_19 (env : List (Nat × Nat)) : zI9 71 zY_71 zm_71 env (38, 63, 1, 0, 0) 39 := zi_iload_n (by decide +kernel : decode zY_71.2.1 38 = .ok (.iload_n 1, 1)) rfl
theorem zf_zm_71_20 (env : List (Nat × Nat)) : zI9 71 zY_71 zm_71 env (39, 19, 0, 0, 0) 40 := zi_aald zft_all (by decide +kernel : decode zY_71.2.1 39 = .ok (.aaload, 1))
theorem zf_zm_71_21 (env : List (Nat × Nat)) : zI9 71 zY_71 zm_71 env (40, 1, 18, 4, 2) 43 := zi_getfN (i := 279) (N := 53) (C := "TransportPairModel$Side") (ref := "TransportPairModel$Side") (T := zF_18) (by decide +kernel : decode zY_71.2.1 40 = .ok (.getfield 279, 3)) rfl zuw_18 (by decide) (zw_N zwd_296) rfl
theorem zf_zm_71_22 (env : List (Nat × Nat)) : zI9 71 zY_71 zm_71 env (43, 63, 2, 0, 0) 44 := zi_iload_n (by decide +kernel : decode zY_71.2.1 43 = .ok (.iload_n 2, 1)) rfl
theorem zf_zm_71_23 (env : List (Nat × Nat)) : zC9 71 zm_71 env (44, 66, 116, 130, 15) := zi_call (by decide +kernel) (zr_V (i := 311) (n := 1) (q := ("TransportPairModel$Book", zF_13, 38)) zX_ok rfl (zgood_116) (by decide +kernel) (zw_T zwd_307) (zw_T zwd_308) (zw_T zwd_309) rfl (zw_T zwd_310) ⟨by decide +kernel, by decide +kernel, by decide +kernel⟩ rfl (by decide +kernel : decode (zYf 71).2.1 44 = .ok (.invokevirtual 311, 3)))
theorem zf_zm_71_24 (env : List (Nat × Nat)) : zR9 71 env (47, 11, 0, 0, 0) := zi_iret (by decide +kernel : decode (zYf 71).2.1 47 = .ok (.ireturn, 1)) rfl
set_option maxRecDepth 100000 in
theorem zc_zm_71 (env : List (Nat × Nat)) : zcode zX (z_QF zEX zcl zft) (z_zm zEX zX zWL zcl zft zYf) zYf zW zET zcl zft (zGv env) 71 zm_71 zm_71.1 := ⟨Or.inl ⟨1, zf_zm_71_0 env, zpc_c⟩,
  Or.inl ⟨2, zf_zm_71_1 env, zpc_c⟩,
  Or.inr (Or.inr (Or.inl ⟨zf_zm_71_2 env, zpc_c⟩)),
  Or.inl ⟨8, zf_zm_71_3 env, zpc_c⟩,
  Or.inl ⟨9, zf_zm_71_4 env, zpc_c⟩,
  Or.inl ⟨12, zf_zm_71_5 env, zpc_c⟩,
  Or.inl ⟨13, zf_zm_71_6 env, zpc_c⟩,
  Or.inl ⟨15, zf_zm_71_7 env, zpc_c⟩,
  Or.inl ⟨18, zf_zm_71_8 env, zpc_c⟩,
  Or.inl ⟨19, zf_zm_71_9 env, zpc_c⟩,
  Or.inl ⟨22, zf_zm_71_10 env, zpc_c⟩,
  Or.inl ⟨23, zf_zm_71_11 env, zpc_c⟩,
  Or.inl ⟨24, zf_zm_71_12 env, zpc_c⟩,
  Or.inr (Or.inr (Or.inl ⟨zf_zm_71_13 env, zpc_c⟩)),
  Or.inl ⟨30, zf_zm_71_14 env, zpc_c⟩,
  Or.inl ⟨31, zf_zm_71_15 env, zpc_c⟩,
  Or.inl ⟨34, zf_zm_71_16 env, zpc_c⟩,
  Or.inl ⟨35, zf_zm_71_17 env, zpc_c⟩,
  Or.inl ⟨38, zf_zm_71_18 env, zpc_c⟩,
  Or.inl ⟨39, zf_zm_71_19 env, zpc_c⟩,
  Or.inl ⟨40, zf_zm_71_20 env, zpc_c⟩,
  Or.inl ⟨43, zf_zm_71_21 env, zpc_c⟩,
  Or.inl ⟨44, zf_zm_71_22 env, zpc_c⟩,
  Or.inr (Or.inr (Or.inl ⟨zf_zm_71_23 env, zpc_c⟩)),
  Or.inr (Or.inl (zf_zm_71_24 env)), trivial⟩
theorem zf_zm_72_0 (env : List (Nat × Nat)) : zI9 72 zY_72 zm_72 env (0, 0, 0, 0, 0) 1 := zi_aload_n (by decide +kernel : decode zY_72.2.1 0 = .ok (.aload_n 0, 1)) rfl
theorem zf_zm_72_1 (env : List (Nat × Nat)) : zI9 72 zY_72 zm_72 env (1, 63, 1, 0, 0) 2 := zi_iload_n (by decide +kernel : decode zY_72.2.1 1 = .ok (.iload_n 1, 1)) rfl
theorem zf_zm_72_2 (env : List (Nat × Nat)) : zC9 72 zm_72 env (2, 66, 45, 65, 0) := zi_call (by decide +kernel) (zr_S (i := 106) zX_ok rfl (zgood_45) (by decide +kernel) (zw_T zwd_250) (zw_T zwd_261) (zw_T zwd_262) ⟨by decide +kernel, by decide +kernel, by decide +kernel⟩ (by decide +kernel : decode (zYf 72).2.1 2 = .ok (.invokestatic 106, 3)))
theorem zf_zm_72_3 (env : List (Nat × Nat)) : zI9 72 zY_72 zm_72 env (5, 6, 14, 0, 0) 8 := zi_if_ne (off := 22) (t := 27) (by decide +kernel : decode zY_72.2.1 5 = .ok (.ifCond .ne 22, 3)) (by decide) (by decide +kernel)
theorem zf_zm_72_4 (env : List (Nat × Nat)) : zI9 72 zY_72 zm_72 env (8, 63, 2, 0, 0) 9 := zi_iload_n (by decide +kernel : decode zY_72.2.1 8 = .ok (.iload_n 2, 1)) rfl
theorem zf_zm_72_5 (env : List (Nat × Nat)) : zI9 72 zY_72 zm_72 env (9, 22, 14, 0, 0) 12 := zi_if_lt (off := 18) (t := 27) (by decide +kernel : decode zY_72.2.1 9 = .ok (.ifCond .lt 18, 3)) (by decide) (by decide +kernel)
theorem zf_zm_72_6 (env : List (Nat × Nat)) : zI9 72 zY_72 zm_72 env (12, 63, 2, 0, 0) 13 := zi_iload_n (by decide +kernel : decode zY_72.2.1 12 = .ok (.iload_n 2, 1)) rfl
theorem zf_zm_72_7 (env : List (Nat × Nat)) : zI9 72 zY_72 zm_72 env (13, 2, 2, 0, 0) 14 := zi_iconst (by decide +kernel : decode zY_72.2.1 13 = .ok (.iconst 2, 1)) (by decide +kernel)
theorem zf_zm_72_8 (env : List (Nat × Nat)) : zI9 72 zY_72 zm_72 env (14, 31, 14, 0, 0) 17 := zi_icmp_gt (off := 13) (t := 27) (by decide +kernel : decode zY_72.2.1 14 = .ok (.if_icmp .gt 13, 3)) (by decide) (by decide +kernel)
theorem zf_zm_72_9 (env : List (Nat × Nat)) : zI9 72 zY_72 zm_72 env (17, 63, 3, 0, 0) 18 := zi_iload_n (by decide +kernel : decode zY_72.2.1 17 = .ok (.iload_n 3, 1)) rfl
theorem zf_zm_72_10 (env : List (Nat × Nat)) : zI9 72 zY_72 zm_72 env (18, 22, 14, 0, 0) 21 := zi_if_lt (off := 9) (t := 27) (by decide +kernel : decode zY_72.2.1 18 = .ok (.ifCond .lt 9, 3)) (by decide) (by decide +kernel)
theorem zf_zm_72_11 (env : List (Nat × Nat)) : zI9 72 zY_72 zm_72 env (21, 63, 3, 0, 0) 22 := zi_iload_n (by decide +kernel : decode zY_72.2.1 21 = .ok (.iload_n 3, 1)) rfl
theorem zf_zm_72_12 (env : List (Nat × Nat)) : zI9 72 zY_72 zm_72 env (22, 2, 11, 0, 0) 24 := zi_bipush (by decide +kernel : decode zY_72.2.1 22 = .ok (.bipush 11, 2)) (by decide +kernel)
theorem zf_zm_72_13 (env : List (Nat × Nat)) : zI9 72 zY_72 zm_72 env (24, 27, 16, 0, 0) 27 := zi_icmp_le (off := 7) (t := 31) (by decide +kernel : decode zY_72.2.1 24 = .ok (.if_icmp .le 7, 3)) (by decide) (by decide +kernel)
theorem zf_zm_72_14 (env : List (Nat × Nat)) : zI9 72 zY_72 zm_72 env (27, 2, 1, 0, 0) 28 := zi_iconst (by decide +kernel : decode zY_72.2.1 27 = .ok (.iconst 1, 1)) (by decide +kernel)
theorem zf_zm_72_15 (env : List (Nat × Nat)) : zI9 72 zY_72 zm_72 env (28, 7, 17, 0, 0) 31 := zi_goto (off := 4) (t := 32) (by decide +kernel : decode zY_72.2.1 28 = .ok (.goto 4, 3)) (by decide) (by decide +kernel)
theorem zf_zm_72_16 (env : List (Nat × Nat)) : zI9 72 zY_72 zm_72 env (31, 2, 0, 0, 0) 32 := zi_iconst (by decide +kernel : decode zY_72.2.1 31 = .ok (.iconst 0, 1)) (by decide +kernel)
theorem zf_zm_72_17 (env : List (Nat × Nat)) : zI9 72 zY_72 zm_72 env (32, 2, 1, 0, 0) 33 := zi_iconst (by decide +kernel : decode zY_72.2.1 32 = .ok (.iconst 1, 1)) (by decide +kernel)
theorem zf_zm_72_18 (env : List (Nat × Nat)) : zC9 72 zm_72 env (33, 66, 44, 195, 3) := zi_call (by decide +kernel) (zr_V (i := 102) (n := 2) (q := ("TransportPairModel", zF_1, 23)) zX_ok rfl (zgood_44) (by decide +kernel) (zw_T zwd_250) (zw_T zwd_259) (zw_T zwd_260) rfl (zw_T (zt_sel (y := ⟨"TransportPairModel","fails","(ZI)Z"⟩) (n := 23) 102 (by decide +kernel))) ⟨by decide +kernel, by decide +kernel, by decide +kernel⟩ rfl (by decide +kernel : decode (zYf 72).2.1 33 = .ok (.invokevirtual 102, 3)))
theorem zf_zm_72_19 (env : List (Nat × Nat)) : zI9 72 zY_72 zm_72 env (36, 5, 22, 0, 0) 39 := zi_if_eq (off := 5) (t := 41) (by decide +kernel : decode zY_72.2.1 36 = .ok (.ifCond .eq 5, 3)) (by decide) (by decide +kernel)
theorem zf_zm_72_20 (env : List (Nat × Nat)) : zI9 72 zY_72 zm_72 env (39, 15, 0, 0, 0) 40 := zi_lconst (by decide +kernel : decode zY_72.2.1 39 = .ok (.lconst 0, 1)) (by decide +kernel)
theorem zf_zm_72_21 (env : List (Nat × Nat)) : zR9 72 env (40, 11, 1, 0, 0) := zi_lret (by decide +kernel : decode (zYf 72).2.1 40 = .ok (.lreturn, 1)) rfl
theorem zf_zm_72_22 (env : List (Nat × Nat)) : zI9 72 zY_72 zm_72 env (41, 63, 3, 0, 0) 42 := zi_iload_n (by decide +kernel : decode zY_72.2.1 41 = .ok (.iload_n 3, 1)) rfl
theorem zf_zm_72_23 (env : List (Nat × Nat)) : zI9 72 zY_72 zm_72 env (42, 2, 11, 0, 0) 44 := zi_bipush (by decide +kernel : decode zY_72.2.1 42 = .ok (.bipush 11, 2)) (by decide +kernel)
theorem zf_zm_72_24 (env : List (Nat × Nat)) : zI9 72 zY_72 zm_72 env (44, 29, 35, 0, 0) 47 := zi_icmp_ne (off := 22) (t := 66) (by decide +kernel : decode zY_72.2.1 44 = .ok (.if_icmp .ne 22, 3)) (by decide) (by decide +kernel)
theorem zf_zm_72_25 (env : List (Nat × Nat)) : zI9 72 zY_72 zm_72 env (47, 0, 0, 0, 0) 48 := zi_aload_n (by decide +kernel : decode zY_72.2.1 47 = .ok (.aload_n 0, 1)) rfl
theorem zf_zm_72_26 (env : List (Nat × Nat)) : zI9 72 zY_72 zm_72 env (48, 1, 1, 7, 2) 51 := zi_getf (i := 37) (N := 23) (C := "TransportPairModel") (ref := "TransportPairModel") (T := zF_1) (by decide +kernel : decode zY_72.2.1 48 = .ok (.getfield 37, 3)) rfl zuw_1 (by decide) (zw_T zwd_231) rfl
theorem zf_zm_72_27 (env : List (Nat × Nat)) : zI9 72 zY_72 zm_72 env (51, 63, 1, 0, 0) 52 := zi_iload_n (by decide +kernel : decode zY_72.2.1 51 = .ok (.iload_n 1, 1)) rfl
theorem zf_zm_72_28 (env : List (Nat × Nat)) : zI9 72 zY_72 zm_72 env (52, 19, 0, 0, 0) 53 := zi_aald zft_all (by decide +kernel : decode zY_72.2.1 52 = .ok (.aaload, 1))
theorem zf_zm_72_29 (env : List (Nat × Nat)) : zI9 72 zY_72 zm_72 env (53, 63, 2, 0, 0) 54 := zi_iload_n (by decide +kernel : decode zY_72.2.1 53 = .ok (.iload_n 2, 1)) rfl
theorem zf_zm_72_30 (env : List (Nat × Nat)) : zC9 72 zm_72 env (54, 66, 123, 130, 20) := zi_call (by decide +kernel) (zr_V (i := 314) (n := 1) (q := ("TransportPairModel$Side", zF_18, 53)) zX_ok rfl (zgood_123) (by decide +kernel) (zw_T zwd_228) (zw_T zwd_311) (zw_T zwd_312) rfl (zw_T zwd_313) ⟨by decide +kernel, by decide +kernel, by decide +kernel⟩ rfl (by decide +kernel : decode (zYf 72).2.1 54 = .ok (.invokevirtual 314, 3)))
theorem zf_zm_72_31 (env : List (Nat × Nat)) : zI9 72 zY_72 zm_72 env (57, 5, 33, 0, 0) 60 := zi_if_eq (off := 7) (t := 64) (by decide +kernel : decode zY_72.2.1 57 = .ok (.ifCond .eq 7, 3)) (by decide) (by decide +kernel)
theorem zf_zm_72_32 (env : List (Nat × Nat)) : zI9 72 zY_72 zm_72 env (60, 99, 0, 0, 0) 64 := zi_none
theorem zf_zm_72_33 (env : List (Nat × Nat)) : zI9 72 zY_72 zm_72 env (64, 15, 0, 0, 0) 65 := zi_lconst (by decide +kernel : decode zY_72.2.1 64 = .ok (.lconst 0, 1)) (by decide +kernel)
theorem zf_zm_72_34 (env : List (Nat × Nat)) : zR9 72 env (65, 11, 1, 0, 0) := zi_lret (by decide +kernel : decode (zYf 72).2.1 65 = .ok (.lreturn, 1)) rfl
theorem zf_zm_72_35 (env : List (Nat × Nat)) : zI9 72 zY_72 zm_72 env (66, 0, 0, 0, 0) 67 := zi_aload_n (by decide +kernel : decode zY_72.2.1 66 = .ok (.aload_n 0, 1)) rfl
theorem zf_zm_72_36 (env : List (Nat × Nat)) : zI9 72 zY_72 zm_72 env (67, 1, 1, 7, 2) 70 := zi_getf (i := 37) (N := 23) (C := "TransportPairModel") (ref := "TransportPairModel") (T := zF_1) (by decide +kernel : decode zY_72.2.1 67 = .ok (.getfield 37, 3)) rfl zuw_1 (by decide) (zw_T zwd_231) rfl
theorem zf_zm_72_37 (env : List (Nat × Nat)) : zI9 72 zY_72 zm_72 env (70, 63, 1, 0, 0) 71 := zi_iload_n (by decide +kernel : decode zY_72.2.1 70 = .ok (.iload_n 1, 1)) rfl
theorem zf_zm_72_38 (env : List (Nat × Nat)) : zI9 72 zY_72 zm_72 env (71, 19, 0, 0, 0) 72 := zi_aald zft_all (by decide +kernel : decode zY_72.2.1 71 = .ok (.aaload, 1))
theorem zf_zm_72_39 (env : List (Nat × Nat)) : zI9 72 zY_72 zm_72 env (72, 1, 18, 4, 2) 75 := zi_getfN (i := 279) (N := 53) (C := "TransportPairModel$Side") (ref := "TransportPairModel$Side") (T := zF_18) (by decide +kernel : decode zY_72.2.1 72 = .ok (.getfield 279, 3)) rfl zuw_18 (by decide) (zw_N zwd_296) rfl
theorem zf_zm_72_40 (env : List (Nat × Nat)) : zI9 72 zY_72 zm_72 env (75, 63, 2, 0, 0) 76 := zi_iload_n (by decide +kernel : decode zY_72.2.1 75 = .ok (.iload_n 2, 1)) rfl
theorem zf_zm_72_41 (env : List (Nat × Nat)) : zI9 72 zY_72 zm_72 env (76, 63, 3, 0, 0) 77 := zi_iload_n (by decide +kernel : decode zY_72.2.1 76 = .ok (.iload_n 3, 1)) rfl
theorem zf_zm_72_42 (env : List (Nat × Nat)) : zC9 72 zm_72 env (77, 66, 117, 195, 15) := zi_call (by decide +kernel) (zr_V (i := 317) (n := 2) (q := ("TransportPairModel$Book", zF_13, 38)) zX_ok rfl (zgood_117) (by decide +kernel) (zw_T zwd_307) (zw_T zwd_314) (zw_T zwd_315) rfl (zw_T zwd_316) ⟨by decide +kernel, by decide +kernel, by decide +kernel⟩ rfl (by decide +kernel : decode (zYf 72).2.1 77 = .ok (.invokevirtual 317, 3)))
theorem zf_zm_72_43 (env : List (Nat × Nat)) : zR9 72 env (80, 11, 1, 0, 0) := zi_lret (by decide +kernel : decode (zYf 72).2.1 80 = .ok (.lreturn, 1)) rfl
set_option maxRecDepth 100000 in
theorem zc_zm_72 (env : List (Nat × Nat)) : zcode zX (z_QF zEX zcl zft) (z_zm zEX zX zWL zcl zft zYf) zYf zW zET zcl zft (zGv env) 72 zm_72 zm_72.1 := ⟨Or.inl ⟨1, zf_zm_72_0 env, zpc_c⟩,
  Or.inl ⟨2, zf_zm_72_1 env, zpc_c⟩,
  Or.inr (Or.inr (Or.inl ⟨zf_zm_72_2 env, zpc_c⟩)),
  Or.inl ⟨8, zf_zm_72_3 env, zpc_c⟩,
  Or.inl ⟨9, zf_zm_72_4 env, zpc_c⟩,
  Or.inl ⟨12, zf_zm_72_5 env, zpc_c⟩,
  Or.inl ⟨13, zf_zm_72_6 env, zpc_c⟩,
  Or.inl ⟨14, zf_zm_72_7 env, zpc_c⟩,
  Or.inl ⟨17, zf_zm_72_8 env, zpc_c⟩,
  Or.inl ⟨18, zf_zm_72_9 env, zpc_c⟩,
  Or.inl ⟨21, zf_zm_72_10 env, zpc_c⟩,
  Or.inl ⟨22, zf_zm_72_11 env, zpc_c⟩,
  Or.inl ⟨24, zf_zm_72_12 env, zpc_c⟩,
  Or.inl ⟨27, zf_zm_72_13 env, zpc_c⟩,
  Or.inl ⟨28, zf_zm_72_14 env, zpc_c⟩,
  Or.inl ⟨31, zf_zm_72_15 env, zpc_c⟩,
  Or.inl ⟨32, zf_zm_72_16 env, zpc_c⟩,
  Or.inl ⟨33, zf_zm_72_17 env, zpc_c⟩,
  Or.inr (Or.inr (Or.inl ⟨zf_zm_72_18 env, zpc_c⟩)),
  Or.inl ⟨39, zf_zm_72_19 env, zpc_c⟩,
  Or.inl ⟨40, zf_zm_72_20 env, zpc_c⟩,
  Or.inr (Or.inl (zf_zm_72_21 env)),
  Or.inl ⟨42, zf_zm_72_22 env, zpc_c⟩,
  Or.inl ⟨44, zf_zm_72_23 env, zpc_c⟩,
  Or.inl ⟨47, zf_zm_72_24 env, zpc_c⟩,
  Or.inl ⟨48, zf_zm_72_25 env, zpc_c⟩,
  Or.inl ⟨51, zf_zm_72_26 env, zpc_c⟩,
  Or.inl ⟨52, zf_zm_72_27 env, zpc_c⟩,
  Or.inl ⟨53, zf_zm_72_28 env, zpc_c⟩,
  Or.inl ⟨54, zf_zm_72_29 env, zpc_c⟩,
  Or.inr (Or.inr (Or.inl ⟨zf_zm_72_30 env, zpc_c⟩)),
  Or.inl ⟨60, zf_zm_72_31 env, zpc_c⟩,
  Or.inl ⟨64, zf_zm_72_32 env, zpc_c⟩,
  Or.inl ⟨65, zf_zm_72_33 env, zpc_c⟩,
  Or.inr (Or.inl (zf_zm_72_34 env)),
  Or.inl ⟨67, zf_zm_72_35 env, zpc_c⟩,
  Or.inl ⟨70, zf_zm_72_36 env, zpc_c⟩,
  Or.inl ⟨71, zf_zm_72_37 env, zpc_c⟩,
  Or.inl ⟨72, zf_zm_72_38 env, zpc_c⟩,
  Or.inl ⟨75, zf_zm_72_39 env, zpc_c⟩,
  Or.inl ⟨76, zf_zm_72_40 env, zpc_c⟩,
  Or.inl ⟨77, zf_zm_72_41 env, zpc_c⟩,
  Or.inr (Or.inr (Or.inl ⟨zf_zm_72_42 env, zpc_c⟩)),
  Or.inr (Or.inl (zf_zm_72_43 env)), trivial⟩
theorem zf_zm_73_0 (env : List (Nat × Nat)) : zI9 73 zY_73 zm_73 env (0, 0, 0, 0, 0) 1 := zi_aload_n (by decide +kernel : decode zY_73.2.1 0 = .ok (.aload_n 0, 1)) rfl
theorem zf_zm_73_1 (env : List (Nat × Nat)) : zI9 73 zY_73 zm_73 env (1, 63, 1, 0, 0) 2 := zi_iload_n (by decide +kernel : decode zY_73.2.1 1 = .ok (.iload_n 1, 1)) rfl
theorem zf_zm_73_2 (env : List (Nat × Nat)) : zC9 73 zm_73 env (2, 66, 45, 65, 0) := zi_call (by decide +kernel) (zr_S (i := 106) zX_ok rfl (zgood_45) (by decide +kernel) (zw_T zwd_250) (zw_T zwd_261) (zw_T zwd_262) ⟨by decide +kernel, by decide +kernel, by decide +kernel⟩ (by decide +kernel : decode (zYf 73).2.1 2 = .ok (.invokestatic 106, 3)))
theorem zf_zm_73_3 (env : List (Nat × Nat)) : zI9 73 zY_73 zm_73 env (5, 6, 9, 0, 0) 8 := zi_if_ne (off := 13) (t := 18) (by decide +kernel : decode zY_73.2.1 5 = .ok (.ifCond .ne 13, 3)) (by decide) (by decide +kernel)
theorem zf_zm_73_4 (env : List (Nat × Nat)) : zI9 73 zY_73 zm_73 env (8, 63, 3, 0, 0) 9 := zi_iload_n (by decide +kernel : decode zY_73.2.1 8 = .ok (.iload_n 3, 1)) rfl
theorem zf_zm_73_5 (env : List (Nat × Nat)) : zI9 73 zY_73 zm_73 env (9, 22, 9, 0, 0) 12 := zi_if_lt (off := 9) (t := 18) (by decide +kernel : decode zY_73.2.1 9 = .ok (.ifCond .lt 9, 3)) (by decide) (by decide +kernel)
theorem zf_zm_73_6 (env : List (Nat × Nat)) : zI9 73 zY_73 zm_73 env (12, 63, 3, 0, 0) 13 := zi_iload_n (by decide +kernel : decode zY_73.2.1 12 = .ok (.iload_n 3, 1)) rfl
theorem zf_zm_73_7 (env : List (Nat × Nat)) : zI9 73 zY_73 zm_73 env (13, 2, 14, 0, 0) 15 := zi_bipush (by decide +kernel : decode zY_73.2.1 13 = .ok (.bipush 14, 2)) (by decide +kernel)
theorem zf_zm_73_8 (env : List (Nat × Nat)) : zI9 73 zY_73 zm_73 env (15, 27, 11, 0, 0) 18 := zi_icmp_le (off := 7) (t := 22) (by decide +kernel : decode zY_73.2.1 15 = .ok (.if_icmp .le 7, 3)) (by decide) (by decide +kernel)
theorem zf_zm_73_9 (env : List (Nat × Nat)) : zI9 73 zY_73 zm_73 env (18, 2, 1, 0, 0) 19 := zi_iconst (by decide +kernel : decode zY_73.2.1 18 = .ok (.iconst 1, 1)) (by decide +kernel)
theorem zf_zm_73_10 (env : List (Nat × Nat)) : zI9 73 zY_73 zm_73 env (19, 7, 12, 0, 0) 22 := zi_goto (off := 4) (t := 23) (by decide +kernel : decode zY_73.2.1 19 = .ok (.goto 4, 3)) (by decide) (by decide +kernel)
theorem zf_zm_73_11 (env : List (Nat × Nat)) : zI9 73 zY_73 zm_73 env (22, 2, 0, 0, 0) 23 := zi_iconst (by decide +kernel : decode zY_73.2.1 22 = .ok (.iconst 0, 1)) (by decide +kernel)
theorem zf_zm_73_12 (env : List (Nat × Nat)) : zI9 73 zY_73 zm_73 env (23, 2, 1, 0, 0) 24 := zi_iconst (by decide +kernel : decode zY_73.2.1 23 = .ok (.iconst 1, 1)) (by decide +kernel)
theorem zf_zm_73_13 (env : List (Nat × Nat)) : zC9 73 zm_73 env (24, 66, 44, 195, 3) := zi_call (by decide +kernel) (zr_V (i := 102) (n := 2) (q := ("TransportPairModel", zF_1, 23)) zX_ok rfl (zgood_44) (by decide +kernel) (zw_T zwd_250) (zw_T zwd_259) (zw_T zwd_260) rfl (zw_T (zt_sel (y := ⟨"TransportPairModel","fails","(ZI)Z"⟩) (n := 23) 102 (by decide +kernel))) ⟨by decide +kernel, by decide +kernel, by decide +kernel⟩ rfl (by decide +kernel : decode (zYf 73).2.1 24 = .ok (.invokevirtual 102, 3)))
theorem zf_zm_73_14 (env : List (Nat × Nat)) : zI9 73 zY_73 zm_73 env (27, 5, 17, 0, 0) 30 := zi_if_eq (off := 7) (t := 34) (by decide +kernel : decode zY_73.2.1 27 = .ok (.ifCond .eq 7, 3)) (by decide) (by decide +kernel)
theorem zf_zm_73_15 (env : List (Nat × Nat)) : zI9 73 zY_73 zm_73 env (30, 15, 0, 0, 0) 31 := zi_lconst (by decide +kernel : decode zY_73.2.1 30 = .ok (.lconst 0, 1)) (by decide +kernel)
theorem zf_zm_73_16 (env : List (Nat × Nat)) : zI9 73 zY_73 zm_73 env (31, 7, 23, 0, 0) 34 := zi_goto (off := 13) (t := 44) (by decide +kernel : decode zY_73.2.1 31 = .ok (.goto 13, 3)) (by decide) (by decide +kernel)
theorem zf_zm_73_17 (env : List (Nat × Nat)) : zI9 73 zY_73 zm_73 env (34, 0, 0, 0, 0) 35 := zi_aload_n (by decide +kernel : decode zY_73.2.1 34 = .ok (.aload_n 0, 1)) rfl
theorem zf_zm_73_18 (env : List (Nat × Nat)) : zI9 73 zY_73 zm_73 env (35, 1, 1, 6, 2) 38 := zi_getf (i := 28) (N := 23) (C := "TransportPairModel") (ref := "TransportPairModel") (T := zF_1) (by decide +kernel : decode zY_73.2.1 35 = .ok (.getfield 28, 3)) rfl zuw_1 (by decide) (zw_T zwd_224) rfl
theorem zf_zm_73_19 (env : List (Nat × Nat)) : zI9 73 zY_73 zm_73 env (38, 63, 1, 0, 0) 39 := zi_iload_n (by decide +kernel : decode zY_73.2.1 38 = .ok (.iload_n 1, 1)) rfl
theorem zf_zm_73_20 (env : List (Nat × Nat)) : zI9 73 zY_73 zm_73 env (39, 63, 2, 0, 0) 40 := zi_iload_n (by decide +kernel : decode zY_73.2.1 39 = .ok (.iload_n 2, 1)) rfl
theorem zf_zm_73_21 (env : List (Nat × Nat)) : zI9 73 zY_73 zm_73 env (40, 63, 3, 0, 0) 41 := zi_iload_n (by decide +kernel : decode zY_73.2.1 40 = .ok (.iload_n 3, 1)) rfl
theorem zf_zm_73_22 (env : List (Nat × Nat)) : zC9 73 zm_73 env (41, 66, 139, 261, 21) := zi_call (by decide +kernel) (zr_V (i := 321) (n := 3) (q := ("TransportPairModel$Streams", zF_19, 56)) zX_ok rfl (zgood_139) (by decide +kernel) (zw_T zwd_221) (zw_T zwd_317) (zw_T zwd_318) rfl (zw_T zwd_319) ⟨by decide +kernel, by decide +kernel, by decide +kernel⟩ rfl (by decide +kernel : decode (zYf 73).2.1 41 = .ok (.invokevirtual 321, 3)))
theorem zf_zm_73_23 (env : List (Nat × Nat)) : zR9 73 env (44, 11, 1, 0, 0) := zi_lret (by decide +kernel : decode (zYf 73).2.1 44 = .ok (.lreturn, 1)) rfl
set_option maxRecDepth 100000 in
theorem zc_zm_73 (env : List (Nat × Nat)) : zcode zX (z_QF zEX zcl zft) (z_zm zEX zX zWL zcl zft zYf) zYf zW zET zcl zft (zGv env) 73 zm_73 zm_73.1 := ⟨Or.inl ⟨1, zf_zm_73_0 env, zpc_c⟩,
  Or.inl ⟨2, zf_zm_73_1 env, zpc_c⟩,
  Or.inr (Or.inr (Or.inl ⟨zf_zm_73_2 env, zpc_c⟩)),
  Or.inl ⟨8, zf_zm_73_3 env, zpc_c⟩,
  Or.inl ⟨9, zf_zm_73_4 env, zpc_c⟩,
  Or.inl ⟨12, zf_zm_73_5 env, zpc_c⟩,
  Or.inl ⟨13, zf_zm_73_6 env, zpc_c⟩,
  Or.inl ⟨15, zf_zm_73_7 env, zpc_c⟩,
  Or.inl ⟨18, zf_zm_73_8 env, zpc_c⟩,
  Or.inl ⟨19, zf_zm_73_9 env, zpc_c⟩,
  Or.inl ⟨22, zf_zm_73_10 env, zpc_c⟩,
  Or.inl ⟨23, zf_zm_73_11 env, zpc_c⟩,
  Or.inl ⟨24, zf_zm_73_12 env, zpc_c⟩,
  Or.inr (Or.inr (Or.inl ⟨zf_zm_73_13 env, zpc_c⟩)),
  Or.inl ⟨30, zf_zm_73_14 env, zpc_c⟩,
  Or.inl ⟨31, zf_zm_73_15 env, zpc_c⟩,
  Or.inl ⟨34, zf_zm_73_16 env, zpc_c⟩,
  Or.inl ⟨35, zf_zm_73_17 env, zpc_c⟩,
  Or.inl ⟨38, zf_zm_73_18 env, zpc_c⟩,
  Or.inl ⟨39, zf_zm_73_19 env, zpc_c⟩,
  Or.inl ⟨40, zf_zm_73_20 env, zpc_c⟩,
  Or.inl ⟨41, zf_zm_73_21 env, zpc_c⟩,
  Or.inr (Or.inr (Or.inl ⟨zf_zm_73_22 env, zpc_c⟩)),
  Or.inr (Or.inl (zf_zm_73_23 env)), trivial⟩
theorem zf_zm_74_0 (env : List (Nat × Nat)) : zI9 74 zY_74 zm_74 env (0, 0, 0, 0, 0) 1 := zi_aload_n (by decide +kernel : decode zY_74.2.1 0 = .ok (.aload_n 0, 1)) rfl
theorem zf_zm_74_1 (env : List (Nat × Nat)) : zI9 74 zY_74 zm_74 env (1, 63, 1, 0, 0) 2 := zi_iload_n (by decide +kernel : decode zY_74.2.1 1 = .ok (.iload_n 1, 1)) rfl
theorem zf_zm_74_2 (env : List (Nat × Nat)) : zC9 74 zm_74 env (2, 66, 45, 65, 0) := zi_call (by decide +kernel) (zr_S (i := 106) zX_ok rfl (zgood_45) (by decide +kernel) (zw_T zwd_250) (zw_T zwd_261) (zw_T zwd_262) ⟨by decide +kernel, by decide +kernel, by decide +kernel⟩ (by decide +kernel : decode (zYf 74).2.1 2 = .ok (.invokestatic 106, 3)))
theorem zf_zm_74_3 (env : List (Nat × Nat)) : zI9 74 zY_74 zm_74 env (5, 6, 9, 0, 0) 8 := zi_if_ne (off := 13) (t := 18) (by decide +kernel : decode zY_74.2.1 5 = .ok (.ifCond .ne 13, 3)) (by decide) (by decide +kernel)
theorem zf_zm_74_4 (env : List (Nat × Nat)) : zI9 74 zY_74 zm_74 env (8, 63, 2, 0, 0) 9 := zi_iload_n (by decide +kernel : decode zY_74.2.1 8 = .ok (.iload_n 2, 1)) rfl
theorem zf_zm_74_5 (env : List (Nat × Nat)) : zI9 74 zY_74 zm_74 env (9, 22, 9, 0, 0) 12 := zi_if_lt (off := 9) (t := 18) (by decide +kernel : decode zY_74.2.1 9 = .ok (.ifCond .lt 9, 3)) (by decide) (by decide +kernel)
theorem zf_zm_74_6 (env : List (Nat × Nat)) : zI9 74 zY_74 zm_74 env (12, 63, 2, 0, 0) 13 := zi_iload_n (by decide +kernel : decode zY_74.2.1 12 = .ok (.iload_n 2, 1)) rfl
theorem zf_zm_74_7 (env : List (Nat × Nat)) : zI9 74 zY_74 zm_74 env (13, 2, 13, 0, 0) 15 := zi_bipush (by decide +kernel : decode zY_74.2.1 13 = .ok (.bipush 13, 2)) (by decide +kernel)
theorem zf_zm_74_8 (env : List (Nat × Nat)) : zI9 74 zY_74 zm_74 env (15, 27, 11, 0, 0) 18 := zi_icmp_le (off := 7) (t := 22) (by decide +kernel : decode zY_74.2.1 15 = .ok (.if_icmp .le 7, 3)) (by decide) (by decide +kernel)
theorem zf_zm_74_9 (env : List (Nat × Nat)) : zI9 74 zY_74 zm_74 env (18, 2, 1, 0, 0) 19 := zi_iconst (by decide +kernel : decode zY_74.2.1 18 = .ok (.iconst 1, 1)) (by decide +kernel)
theorem zf_zm_74_10 (env : List (Nat × Nat)) : zI9 74 zY_74 zm_74 env (19, 7, 12, 0, 0) 22 := zi_goto (off := 4) (t := 23) (by decide +kernel : decode zY_74.2.1 19 = .ok (.goto 4, 3)) (by decide) (by decide +kernel)
theorem zf_zm_74_11 (env : List (Nat × Nat)) : zI9 74 zY_74 zm_74 env (22, 2, 0, 0, 0) 23 := zi_iconst (by decide +kernel : decode zY_74.2.1 22 = .ok (.iconst 0, 1)) (by decide +kernel)
theorem zf_zm_74_12 (env : List (Nat × Nat)) : zI9 74 zY_74 zm_74 env (23, 2, 1, 0, 0) 24 := zi_iconst (by decide +kernel : decode zY_74.2.1 23 = .ok (.iconst 1, 1)) (by decide +kernel)
theorem zf_zm_74_13 (env : List (Nat × Nat)) : zC9 74 zm_74 env (24, 66, 44, 195, 3) := zi_call (by decide +kernel) (zr_V (i := 102) (n := 2) (q := ("TransportPairModel", zF_1, 23)) zX_ok rfl (zgood_44) (by decide +kernel) (zw_T zwd_250) (zw_T zwd_259) (zw_T zwd_260) rfl (zw_T (zt_sel (y := ⟨"TransportPairModel","fails","(ZI)Z"⟩) (n := 23) 102 (by decide +kernel))) ⟨by decide +kernel, by decide +kernel, by decide +kernel⟩ rfl (by decide +kernel : decode (zYf 74).2.1 24 = .ok (.invokevirtual 102, 3)))
theorem zf_zm_74_14 (env : List (Nat × Nat)) : zI9 74 zY_74 zm_74 env (27, 5, 17, 0, 0) 30 := zi_if_eq (off := 7) (t := 34) (by decide +kernel : decode zY_74.2.1 27 = .ok (.ifCond .eq 7, 3)) (by decide) (by decide +kernel)
theorem zf_zm_74_15 (env : List (Nat × Nat)) : zI9 74 zY_74 zm_74 env (30, 15, 0, 0, 0) 31 := zi_lconst (by decide +kernel : decode zY_74.2.1 30 = .ok (.lconst 0, 1)) (by decide +kernel)
theorem zf_zm_74_16 (env : List (Nat × Nat)) : zI9 74 zY_74 zm_74 env (31, 7, 22, 0, 0) 34 := zi_goto (off := 12) (t := 43) (by decide +kernel : decode zY_74.2.1 31 = .ok (.goto 12, 3)) (by decide) (by decide +kernel)
theorem zf_zm_74_17 (env : List (Nat × Nat)) : zI9 74 zY_74 zm_74 env (34, 0, 0, 0, 0) 35 := zi_aload_n (by decide +kernel : decode zY_74.2.1 34 = .ok (.aload_n 0, 1)) rfl
theorem zf_zm_74_18 (env : List (Nat × Nat)) : zI9 74 zY_74 zm_74 env (35, 1, 1, 6, 2) 38 := zi_getf (i := 28) (N := 23) (C := "TransportPairModel") (ref := "TransportPairModel") (T := zF_1) (by decide +kernel : decode zY_74.2.1 35 = .ok (.getfield 28, 3)) rfl zuw_1 (by decide) (zw_T zwd_224) rfl
theorem zf_zm_74_19 (env : List (Nat × Nat)) : zI9 74 zY_74 zm_74 env (38, 63, 1, 0, 0) 39 := zi_iload_n (by decide +kernel : decode zY_74.2.1 38 = .ok (.iload_n 1, 1)) rfl
theorem zf_zm_74_20 (env : List (Nat × Nat)) : zI9 74 zY_74 zm_74 env (39, 63, 2, 0, 0) 40 := zi_iload_n (by decide +kernel : decode zY_74.2.1 39 = .ok (.iload_n 2, 1)) rfl
theorem zf_zm_74_21 (env : List (Nat × Nat)) : zC9 74 zm_74 env (40, 66, 140, 195, 21) := zi_call (by decide +kernel) (zr_V (i := 324) (n := 2) (q := ("TransportPairModel$Streams", zF_19, 56)) zX_ok rfl (zgood_140) (by decide +kernel) (zw_T zwd_221) (zw_T zwd_320) (zw_T zwd_321) rfl (zw_T zwd_322) ⟨by decide +kernel, by decide +kernel, by decide +kernel⟩ rfl (by decide +kernel : decode (zYf 74).2.1 40 = .ok (.invokevirtual 324, 3)))
theorem zf_zm_74_22 (env : List (Nat × Nat)) : zR9 74 env (43, 11, 1, 0, 0) := zi_lret (by decide +kernel : decode (zYf 74).2.1 43 = .ok (.lreturn, 1)) rfl
set_option maxRecDepth 100000 in
theorem zc_zm_74 (env : List (Nat × Nat)) : zcode zX (z_QF zEX zcl zft) (z_zm zEX zX zWL zcl zft zYf) zYf zW zET zcl zft (zGv env) 74 zm_74 zm_74.1 := ⟨Or.inl ⟨1, zf_zm_74_0 env, zpc_c⟩,
  Or.inl ⟨2, zf_zm_74_1 env, zpc_c⟩,
  Or.inr (Or.inr (Or.inl ⟨zf_zm_74_2 env, zpc_c⟩)),
  Or.inl ⟨8, zf_zm_74_3 env, zpc_c⟩,
  Or.inl ⟨9, zf_zm_74_4 env, zpc_c⟩,
  Or.inl ⟨12, zf_zm_74_5 env, zpc_c⟩,
  Or.inl ⟨13, zf_zm_74_6 env, zpc_c⟩,
  Or.inl ⟨15, zf_zm_74_7 env, zpc_c⟩,
  Or.inl ⟨18, zf_zm_74_8 env, zpc_c⟩,
  Or.inl ⟨19, zf_zm_74_9 env, zpc_c⟩,
  Or.inl ⟨22, zf_zm_74_10 env, zpc_c⟩,
  Or.inl ⟨23, zf_zm_74_11 env, zpc_c⟩,
  Or.inl ⟨24, zf_zm_74_12 env, zpc_c⟩,
  Or.inr (Or.inr (Or.inl ⟨zf_zm_74_13 env, zpc_c⟩)),
  Or.inl ⟨30, zf_zm_74_14 env, zpc_c⟩,
  Or.inl ⟨31, zf_zm_74_15 env, zpc_c⟩,
  Or.inl ⟨34, zf_zm_74_16 env, zpc_c⟩,
  Or.inl ⟨35, zf_zm_74_17 env, zpc_c⟩,
  Or.inl ⟨38, zf_zm_74_18 env, zpc_c⟩,
  Or.inl ⟨39, zf_zm_74_19 env, zpc_c⟩,
  Or.inl ⟨40, zf_zm_74_20 env, zpc_c⟩,
  Or.inr (Or.inr (Or.inl ⟨zf_zm_74_21 env, zpc_c⟩)),
  Or.inr (Or.inl (zf_zm_74_22 env)), trivial⟩
theorem zf_zm_75_0 (env : List (Nat × Nat)) : zI9 75 zY_75 zm_75 env (0, 0, 0, 0, 0) 1 := zi_aload_n (by decide +kernel : decode zY_75.2.1 0 = .ok (.aload_n 0, 1)) rfl
theorem zf_zm_75_1 (env : List (Nat × Nat)) : zI9 75 zY_75 zm_75 env (1, 60, 0, 0, 0) 4 := zi_obj (i := 1) (by decide +kernel : decode zY_75.2.1 1 = .ok (.invokespecial 1, 3)) (zw_T zwd_323) (zw_T zwd_11) (zw_T zwd_12)
theorem zf_zm_75_2 (env : List (Nat × Nat)) : zI9 75 zY_75 zm_75 env (4, 0, 0, 0, 0) 5 := zi_aload_n (by decide +kernel : decode zY_75.2.1 4 = .ok (.aload_n 0, 1)) rfl
theorem zf_zm_75_3 (env : List (Nat × Nat)) : zI9 75 zY_75 zm_75 env (5, 2, 3, 0, 0) 6 := zi_iconst (by decide +kernel : decode zY_75.2.1 5 = .ok (.iconst 3, 1)) (by decide +kernel)
theorem zf_zm_75_4 (env : List (Nat × Nat)) : zI9 75 zY_75 zm_75 env (6, 38, 0, 7, 0) 9 := zi_newA (i := 7) (C := "TransportPair$Space") (by decide +kernel : decode zY_75.2.1 6 = .ok (.anewarray 7, 3)) (zw_T zwd_324) (zw_N zwd_325) (fun _ _ _ h => h) rfl
theorem zf_zm_75_5 (env : List (Nat × Nat)) : zI9 75 zY_75 zm_75 env (9, 13, 0, 0, 0) 10 := zi_dup (by decide +kernel : decode zY_75.2.1 9 = .ok (.dup, 1))
theorem zf_zm_75_6 (env : List (Nat × Nat)) : zI9 75 zY_75 zm_75 env (10, 2, 0, 0, 0) 11 := zi_iconst (by decide +kernel : decode zY_75.2.1 10 = .ok (.iconst 0, 1)) (by decide +kernel)
theorem zf_zm_75_7 (env : List (Nat × Nat)) : zI9 75 zY_75 zm_75 env (11, 17, 11, 0, 21) 14 := zi_new (i := 7) (N := 21) (C := "TransportPair$Space") (T := zF_11) (ds := [2, 0, 0, 0, 0, 0, 0, 0, 0, 2, 2, 0, 1, 0, 0, 0, 0, 0, 2, 2, 0]) (by decide +kernel : decode zY_75.2.1 11 = .ok (.new 7, 3)) rfl zuw_11 zFt_11 (zw_T zwd_324) (zw_T zwd_326) (zw_T zwd_327) rfl rfl rfl zFd_11
theorem zf_zm_75_8 (env : List (Nat × Nat)) : zI9 75 zY_75 zm_75 env (14, 13, 0, 0, 0) 15 := zi_dup (by decide +kernel : decode zY_75.2.1 14 = .ok (.dup, 1))
theorem zf_zm_75_9 (env : List (Nat × Nat)) : zC9 75 zm_75 env (15, 66, 96, 65, 1) := zi_call (by decide +kernel) (zr_IN (i := 9) (n := 0) zX_ok rfl (zgood_96) (by decide +kernel) (zw_T zwd_327) (zw_N zwd_328) rfl (zw_T zwd_329) rfl ⟨by decide +kernel, by decide +kernel, by decide +kernel⟩ rfl (by decide +kernel : decode (zYf 75).2.1 15 = .ok (.invokespecial 9, 3)))
theorem zf_zm_75_10 (env : List (Nat × Nat)) : zI9 75 zY_75 zm_75 env (18, 33, 0, 0, 0) 19 := zi_aast zft_all (by decide +kernel : decode zY_75.2.1 18 = .ok (.aastore, 1))
theorem zf_zm_75_11 (env : List (Nat × Nat)) : zI9 75 zY_75 zm_75 env (19, 13, 0, 0, 0) 20 := zi_dup (by decide +kernel : decode zY_75.2.1 19 = .ok (.dup, 1))
theorem zf_zm_75_12 (env : List (Nat × Nat)) : zI9 75 zY_75 zm_75 env (20, 2, 1, 0, 0) 21 := zi_iconst (by decide +kernel : decode zY_75.2.1 20 = .ok (.iconst 1, 1)) (by decide +kernel)
theorem zf_zm_75_13 (env : List (Nat × Nat)) : zI9 75 zY_75 zm_75 env (21, 17, 11, 0, 21) 24 := zi_new (i := 7) (N := 21) (C := "TransportPair$Space") (T := zF_11) (ds := [2, 0, 0, 0, 0, 0, 0, 0, 0, 2, 2, 0, 1, 0, 0, 0, 0, 0, 2, 2, 0]) (by decide +kernel : decode zY_75.2.1 21 = .ok (.new 7, 3)) rfl zuw_11 zFt_11 (zw_T zwd_324) (zw_T zwd_326) (zw_T zwd_327) rfl rfl rfl zFd_11
theorem zf_zm_75_14 (env : List (Nat × Nat)) : zI9 75 zY_75 zm_75 env (24, 13, 0, 0, 0) 25 := zi_dup (by decide +kernel : decode zY_75.2.1 24 = .ok (.dup, 1))
theorem zf_zm_75_15 (env : List (Nat × Nat)) : zC9 75 zm_75 env (25, 66, 96, 65, 1) := zi_call (by decide +kernel) (zr_IN (i := 9) (n := 0) zX_ok rfl (zgood_96) (by decide +kernel) (zw_T zwd_327) (zw_N zwd_328) rfl (zw_T zwd_329) rfl ⟨by decide +kernel, by decide +kernel, by decide +kernel⟩ rfl (by decide +kernel : decode (zYf 75).2.1 25 = .ok (.invokespecial 9, 3)))
theorem zf_zm_75_16 (env : List (Nat × Nat)) : zI9 75 zY_75 zm_75 env (28, 33, 0, 0, 0) 29 := zi_aast zft_all (by decide +kernel : decode zY_75.2.1 28 = .ok (.aastore, 1))
theorem zf_zm_75_17 (env : List (Nat × Nat)) : zI9 75 zY_75 zm_75 env (29, 13, 0, 0, 0) 30 := zi_dup (by decide +kernel : decode zY_75.2.1 29 = .ok (.dup, 1))
theorem zf_zm_75_18 (env : List (Nat × Nat)) : zI9 75 zY_75 zm_75 env (30, 2, 2, 0, 0) 31 := zi_iconst (by decide +kernel : decode zY_75.2.1 30 = .ok (.iconst 2, 1)) (by decide +kernel)
theorem zf_zm_75_19 (env : List (Nat × Nat)) : zI9 75 zY_75 zm_75 env (31, 17, 11, 0, 21) 34 := zi_new (i := 7) (N := 21) (C := "TransportPair$Space") (T := zF_11) (ds := [2, 0, 0, 0, 0, 0, 0, 0, 0, 2, 2, 0, 1, 0, 0, 0, 0, 0, 2, 2, 0]) (by decide +kernel : decode zY_75.2.1 31 = .ok (.new 7, 3)) rfl zuw_11 zFt_11 (zw_T zwd_324) (zw_T zwd_326) (zw_T zwd_327) rfl rfl rfl zFd_11
theorem zf_zm_75_20 (env : List (Nat × Nat)) : zI9 75 zY_75 zm_75 env (34, 13, 0, 0, 0) 35 := zi_dup (by decide +kernel : decode zY_75.2.1 34 = .ok (.dup, 1))
theorem zf_zm_75_21 (env : List (Nat × Nat)) : zC9 75 zm_75 env (35, 66, 96, 65, 1) := zi_call (by decide +kernel) (zr_IN (i := 9) (n := 0) zX_ok rfl (zgood_96) (by decide +kernel) (zw_T zwd_327) (zw_N zwd_328) rfl (zw_T zwd_329) rfl ⟨by decide +kernel, by decide +kernel, by decide +kernel⟩ rfl (by decide +kernel : decode (zYf 75).2.1 35 = .ok (.invokespecial 9, 3)))
theorem zf_zm_75_22 (env : List (Nat × Nat)) : zI9 75 zY_75 zm_75 env (38, 33, 0, 0, 0) 39 := zi_aast zft_all (by decide +kernel : decode zY_75.2.1 38 = .ok (.aastore, 1))
theorem zf_zm_75_23 (env : List (Nat × Nat)) : zI9 75 zY_75 zm_75 env (39, 4, 2, 0, 2) 42 := zi_putfF (i := 10) (N := 20) (C := "TransportPair$Book") (ref := "TransportPair$Book") (T := zF_2) (by decide +kernel : decode zY_75.2.1 39 = .ok (.putfield 10, 3)) rfl zuw_2 zFt_2 zFn_2 (by decide) (zw_T zwd_330) rfl rfl rfl rfl (ty := .array (.object "TransportPair$Space")) (by decide +kernel) (Or.inr ⟨_, rfl⟩)
theorem zf_zm_75_24 (env : List (Nat × Nat)) : zI9 75 zY_75 zm_75 env (42, 0, 0, 0, 0) 43 := zi_aload_n (by decide +kernel : decode zY_75.2.1 42 = .ok (.aload_n 0, 1)) rfl
theorem zf_zm_75_25 (env : List (Nat × Nat)) : zI9 75 zY_75 zm_75 env (43, 2, 12000, 0, 0) 46 := zi_sipush (by decide +kernel : decode zY_75.2.1 43 = .ok (.sipush 12000, 3)) (by decide +kernel)
theorem zf_zm_75_26 (env : List (Nat × Nat)) : zI9 75 zY_75 zm_75 env (46, 4, 2, 3, 0) 49 := zi_putf (i := 16) (N := 20) (C := "TransportPair$Book") (ref := "TransportPair$Book") (T := zF_2) (by decide +kernel : decode zY_75.2.1 46 = .ok (.putfield 16, 3)) rfl zuw_2 zFt_2 zFn_2 (by decide) (zw_T zwd_331) rfl rfl (ty := .int) (by decide +kernel) (rfl)
theorem zf_zm_75_27 (env : List (Nat × Nat)) : zI9 75 zY_75 zm_75 env (49, 0, 0, 0, 0) 50 := zi_aload_n (by decide +kernel : decode zY_75.2.1 49 = .ok (.aload_n 0, 1)) rfl
theorem zf_zm_75_28 (env : List (Nat × Nat)) : zI9 75 zY_75 zm_75 env (50, 2, 4294967295, 0, 0) 51 := zi_iconst (by decide +kernel : decode zY_75.2.1 50 = .ok (.iconst (-1), 1)) (by decide +kernel)
theorem zf_zm_75_29 (env : List (Nat × Nat)) : zI9 75 zY_75 zm_75 env (51, 4, 2, 4, 0) 54 := zi_putf (i := 20) (N := 20) (C := "TransportPair$Book") (ref := "TransportPair$Book") (T := zF_2) (by decide +kernel : decode zY_75.2.1 51 = .ok (.putfield 20, 3)) rfl zuw_2 zFt_2 zFn_2 (by decide) (zw_T zwd_332) rfl rfl (ty := .int) (by decide +kernel) (rfl)
theorem zf_zm_75_30 (env : List (Nat × Nat)) : zI9 75 zY_75 zm_75 env (54, 0, 0, 0, 0) 55 := zi_aload_n (by decide +kernel : decode zY_75.2.1 54 = .ok (.aload_n 0, 1)) rfl
theorem zf_zm_75_31 (env : List (Nat × Nat)) : zI9 75 zY_75 zm_75 env (55, 2, 4294967295, 0, 0) 56 := zi_iconst (by decide +kernel : decode zY_75.2.1 55 = .ok (.iconst (-1), 1)) (by decide +kernel)
theorem zf_zm_75_32 (env : List (Nat × Nat)) : zI9 75 zY_75 zm_75 env (56, 4, 2, 5, 0) 59 := zi_putf (i := 23) (N := 20) (C := "TransportPair$Book") (ref := "TransportPair$Book") (T := zF_2) (by decide +kernel : decode zY_75.2.1 56 = .ok (.putfield 23, 3)) rfl zuw_2 zFt_2 zFn_2 (by decide) (zw_T zwd_333) rfl rfl (ty := .int) (by decide +kernel) (rfl)
theorem zf_zm_75_33 (env : List (Nat × Nat)) : zI9 75 zY_75 zm_75 env (59, 0, 0, 0, 0) 60 := zi_aload_n (by decide +kernel : decode zY_75.2.1 59 = .ok (.aload_n 0, 1)) rfl
theorem zf_zm_75_34 (env : List (Nat × Nat)) : zI9 75 zY_75 zm_75 env (60, 2, 800, 0, 0) 63 := zi_sipush (by decide +kernel : decode zY_75.2.1 60 = .ok (.sipush 800, 3)) (by decide +kernel)
theorem zf_zm_75_35 (env : List (Nat × Nat)) : zI9 75 zY_75 zm_75 env (63, 4, 2, 6, 0) 66 := zi_putf (i := 26) (N := 20) (C := "TransportPair$Book") (ref := "TransportPair$Book") (T := zF_2) (by decide +kernel : decode zY_75.2.1 63 = .ok (.putfield 26, 3)) rfl zuw_2 zFt_2 zFn_2 (by decide) (zw_T zwd_334) rfl rfl (ty := .int) (by decide +kernel) (rfl)
theorem zf_zm_75_36 (env : List (Nat × Nat)) : zI9 75 zY_75 zm_75 env (66, 0, 0, 0, 0) 67 := zi_aload_n (by decide +kernel : decode zY_75.2.1 66 = .ok (.aload_n 0, 1)) rfl
theorem zf_zm_75_37 (env : List (Nat × Nat)) : zI9 75 zY_75 zm_75 env (67, 2, 200, 0, 0) 70 := zi_sipush (by decide +kernel : decode zY_75.2.1 67 = .ok (.sipush 200, 3)) (by decide +kernel)
theorem zf_zm_75_38 (env : List (Nat × Nat)) : zI9 75 zY_75 zm_75 env (70, 4, 2, 7, 0) 73 := zi_putf (i := 29) (N := 20) (C := "TransportPair$Book") (ref := "TransportPair$Book") (T := zF_2) (by decide +kernel : decode zY_75.2.1 70 = .ok (.putfield 29, 3)) rfl zuw_2 zFt_2 zFn_2 (by decide) (zw_T zwd_335) rfl rfl (ty := .int) (by decide +kernel) (rfl)
theorem zf_zm_75_39 (env : List (Nat × Nat)) : zI9 75 zY_75 zm_75 env (73, 0, 0, 0, 0) 74 := zi_aload_n (by decide +kernel : decode zY_75.2.1 73 = .ok (.aload_n 0, 1)) rfl
theorem zf_zm_75_40 (env : List (Nat × Nat)) : zI9 75 zY_75 zm_75 env (74, 2, 4294967295, 0, 0) 75 := zi_iconst (by decide +kernel : decode zY_75.2.1 74 = .ok (.iconst (-1), 1)) (by decide +kernel)
theorem zf_zm_75_41 (env : List (Nat × Nat)) : zI9 75 zY_75 zm_75 env (75, 4, 2, 9, 0) 78 := zi_putf (i := 32) (N := 20) (C := "TransportPair$Book") (ref := "TransportPair$Book") (T := zF_2) (by decide +kernel : decode zY_75.2.1 75 = .ok (.putfield 32, 3)) rfl zuw_2 zFt_2 zFn_2 (by decide) (zw_T zwd_336) rfl rfl (ty := .int) (by decide +kernel) (rfl)
theorem zf_zm_75_42 (env : List (Nat × Nat)) : zI9 75 zY_75 zm_75 env (78, 0, 0, 0, 0) 79 := zi_aload_n (by decide +kernel : decode zY_75.2.1 78 = .ok (.aload_n 0, 1)) rfl
theorem zf_zm_75_43 (env : List (Nat × Nat)) : zI9 75 zY_75 zm_75 env (79, 2, 4294967295, 0, 0) 80 := zi_iconst (by decide +kernel : decode zY_75.2.1 79 = .ok (.iconst (-1), 1)) (by decide +kernel)
theorem zf_zm_75_44 (env : List (Nat × Nat)) : zI9 75 zY_75 zm_75 env (80, 4, 2, 11, 0) 83 := zi_putf (i := 35) (N := 20) (C := "TransportPair$Book") (ref := "TransportPair$Book") (T := zF_2) (by decide +kernel : decode zY_75.2.1 80 = .ok (.putfield 35, 3)) rfl zuw_2 zFt_2 zFn_2 (by decide) (zw_T zwd_337) rfl rfl (ty := .int) (by decide +kernel) (rfl)
theorem zf_zm_75_45 (env : List (Nat × Nat)) : zI9 75 zY_75 zm_75 env (83, 0, 0, 0, 0) 84 := zi_aload_n (by decide +kernel : decode zY_75.2.1 83 = .ok (.aload_n 0, 1)) rfl
theorem zf_zm_75_46 (env : List (Nat × Nat)) : zI9 75 zY_75 zm_75 env (84, 2, 16, 0, 0) 86 := zi_bipush (by decide +kernel : decode zY_75.2.1 84 = .ok (.bipush 16, 2)) (by decide +kernel)
theorem zf_zm_75_47 (env : List (Nat × Nat)) : zI9 75 zY_75 zm_75 env (86, 12, 0, 0, 0) 88 := zi_newI (by decide +kernel : decode zY_75.2.1 86 = .ok (.newarray .int, 2)) (zw_T zwd_16) rfl rfl (by decide) rfl
theorem zf_zm_75_48 (env : List (Nat × Nat)) : zI9 75 zY_75 zm_75 env (88, 4, 2, 16, 2) 91 := zi_putf (i := 38) (N := 20) (C := "TransportPair$Book") (ref := "TransportPair$Book") (T := zF_2) (by decide +kernel : decode zY_75.2.1 88 = .ok (.putfield 38, 3)) rfl zuw_2 zFt_2 zFn_2 (by decide) (zw_T zwd_338) rfl rfl (ty := .array .int) (by decide +kernel) (Or.inr ⟨_, rfl⟩)
theorem zf_zm_75_49 (env : List (Nat × Nat)) : zI9 75 zY_75 zm_75 env (91, 0, 0, 0, 0) 92 := zi_aload_n (by decide +kernel : decode zY_75.2.1 91 = .ok (.aload_n 0, 1)) rfl
theorem zf_zm_75_50 (env : List (Nat × Nat)) : zI9 75 zY_75 zm_75 env (92, 2, 16, 0, 0) 94 := zi_bipush (by decide +kernel : decode zY_75.2.1 92 = .ok (.bipush 16, 2)) (by decide +kernel)
theorem zf_zm_75_51 (env : List (Nat × Nat)) : zI9 75 zY_75 zm_75 env (94, 12, 0, 0, 0) 96 := zi_newI (by decide +kernel : decode zY_75.2.1 94 = .ok (.newarray .int, 2)) (zw_T zwd_16) rfl rfl (by decide) rfl
theorem zf_zm_75_52 (env : List (Nat × Nat)) : zI9 75 zY_75 zm_75 env (96, 4, 2, 18, 2) 99 := zi_putf (i := 42) (N := 20) (C := "TransportPair$Book") (ref := "TransportPair$Book") (T := zF_2) (by decide +kernel : decode zY_75.2.1 96 = .ok (.putfield 42, 3)) rfl zuw_2 zFt_2 zFn_2 (by decide) (zw_T zwd_339) rfl rfl (ty := .array .int) (by decide +kernel) (Or.inr ⟨_, rfl⟩)
theorem zf_zm_75_53 (env : List (Nat × Nat)) : zR9 75 env (99, 21, 0, 0, 0) := zi_vret (by decide +kernel : decode (zYf 75).2.1 99 = .ok (.return_, 1)) rfl
set_option maxRecDepth 100000 in
theorem zc_zm_75 (env : List (Nat × Nat)) : zcode zX (z_QF zEX zcl zft) (z_zm zEX zX zWL zcl zft zYf) zYf zW zET zcl zft (zGv env) 75 zm_75 zm_75.1 := ⟨Or.inl ⟨1, zf_zm_75_0 env, zpc_c⟩,
  Or.inl ⟨4, zf_zm_75_1 env, zpc_c⟩,
  Or.inl ⟨5, zf_zm_75_2 env, zpc_c⟩,
  Or.inl ⟨6, zf_zm_75_3 env, zpc_c⟩,
  Or.inl ⟨9, zf_zm_75_4 env, zpc_c⟩,
  Or.inl ⟨10, zf_zm_75_5 env, zpc_c⟩,
  Or.inl ⟨11, zf_zm_75_6 env, zpc_c⟩,
  Or.inl ⟨14, zf_zm_75_7 env, zpc_c⟩,
  Or.inl ⟨15, zf_zm_75_8 env, zpc_c⟩,
  Or.inr (Or.inr (Or.inl ⟨zf_zm_75_9 env, zpc_c⟩)),
  Or.inl ⟨19, zf_zm_75_10 env, zpc_c⟩,
  Or.inl ⟨20, zf_zm_75_11 env, zpc_c⟩,
  Or.inl ⟨21, zf_zm_75_12 env, zpc_c⟩,
  Or.inl ⟨24, zf_zm_75_13 env, zpc_c⟩,
  Or.inl ⟨25, zf_zm_75_14 env, zpc_c⟩,
  Or.inr (Or.inr (Or.inl ⟨zf_zm_75_15 env, zpc_c⟩)),
  Or.inl ⟨29, zf_zm_75_16 env, zpc_c⟩,
  Or.inl ⟨30, zf_zm_75_17 env, zpc_c⟩,
  Or.inl ⟨31, zf_zm_75_18 env, zpc_c⟩,
  Or.inl ⟨34, zf_zm_75_19 env, zpc_c⟩,
  Or.inl ⟨35, zf_zm_75_20 env, zpc_c⟩,
  Or.inr (Or.inr (Or.inl ⟨zf_zm_75_21 env, zpc_c⟩)),
  Or.inl ⟨39, zf_zm_75_22 env, zpc_c⟩,
  Or.inl ⟨42, zf_zm_75_23 env, zpc_c⟩,
  Or.inl ⟨43, zf_zm_75_24 env, zpc_c⟩,
  Or.inl ⟨46, zf_zm_75_25 env, zpc_c⟩,
  Or.inl ⟨49, zf_zm_75_26 env, zpc_c⟩,
  Or.inl ⟨50, zf_zm_75_27 env, zpc_c⟩,
  Or.inl ⟨51, zf_zm_75_28 env, zpc_c⟩,
  Or.inl ⟨54, zf_zm_75_29 env, zpc_c⟩,
  Or.inl ⟨55, zf_zm_75_30 env, zpc_c⟩,
  Or.inl ⟨56, zf_zm_75_31 env, zpc_c⟩,
  Or.inl ⟨59, zf_zm_75_32 env, zpc_c⟩,
  Or.inl ⟨60, zf_zm_75_33 env, zpc_c⟩,
  Or.inl ⟨63, zf_zm_75_34 env, zpc_c⟩,
  Or.inl ⟨66, zf_zm_75_35 env, zpc_c⟩,
  Or.inl ⟨67, zf_zm_75_36 env, zpc_c⟩,
  Or.inl ⟨70, zf_zm_75_37 env, zpc_c⟩,
  Or.inl ⟨73, zf_zm_75_38 env, zpc_c⟩,
  Or.inl ⟨74, zf_zm_75_39 env, zpc_c⟩,
  Or.inl ⟨75, zf_zm_75_40 env, zpc_c⟩,
  Or.inl ⟨78, zf_zm_75_41 env, zpc_c⟩,
  Or.inl ⟨79, zf_zm_75_42 env, zpc_c⟩,
  Or.inl ⟨80, zf_zm_75_43 env, zpc_c⟩,
  Or.inl ⟨83, zf_zm_75_44 env, zpc_c⟩,
  Or.inl ⟨84, zf_zm_75_45 env, zpc_c⟩,
  Or.inl ⟨86, zf_zm_75_46 env, zpc_c⟩,
  Or.inl ⟨88, zf_zm_75_47 env, zpc_c⟩,
  Or.inl ⟨91, zf_zm_75_48 env, zpc_c⟩,
  Or.inl ⟨92, zf_zm_75_49 env, zpc_c⟩,
  Or.inl ⟨94, zf_zm_75_50 env, zpc_c⟩,
  Or.inl ⟨96, zf_zm_75_51 env, zpc_c⟩,
  Or.inl ⟨99, zf_zm_75_52 env, zpc_c⟩,
  Or.inr (Or.inl (zf_zm_75_53 env)), trivial⟩
theorem zf_zm_76_0 (env : List (Nat × Nat)) : zI9 76 zY_76 zm_76 env (0, 63, 1, 0, 0) 1 := zi_iload_n (by decide +kernel : decode zY_76.2.1 0 = .ok (.iload_n 1, 1)) rfl
theorem zf_zm_76_1 (env : List (Nat × Nat)) : zI9 76 zY_76 zm_76 env (1, 40, 0, 0, 0) 56 := zi_switch (df := 32) (lo := 0) (tg := [2, 5, 8, 11, 14, 17, 20, 23, 26, 29]) (by decide +kernel : decode zY_76.2.1 1 = .ok (.tableswitch 105 0 9 #[55, 60, 65, 70, 75, 80, 85, 90, 95, 100], 55)) rfl (by decide) (by decide +kernel) (by decide +kernel)
theorem zf_zm_76_2 (env : List (Nat × Nat)) : zI9 76 zY_76 zm_76 env (56, 0, 0, 0, 0) 57 := zi_aload_n (by decide +kernel : decode zY_76.2.1 56 = .ok (.aload_n 0, 1)) rfl
theorem zf_zm_76_3 (env : List (Nat × Nat)) : zI9 76 zY_76 zm_76 env (57, 1, 2, 1, 0) 60 := zi_getf (i := 45) (N := 20) (C := "TransportPair$Book") (ref := "TransportPair$Book") (T := zF_2) (by decide +kernel : decode zY_76.2.1 57 = .ok (.getfield 45, 3)) rfl zuw_2 (by decide) (zw_T zwd_340) rfl
theorem zf_zm_76_4 (env : List (Nat × Nat)) : zR9 76 env (60, 11, 0, 0, 0) := zi_iret (by decide +kernel : decode (zYf 76).2.1 60 = .ok (.ireturn, 1)) rfl
theorem zf_zm_76_5 (env : List (Nat × Nat)) : zI9 76 zY_76 zm_76 env (61, 0, 0, 0, 0) 62 := zi_aload_n (by decide +kernel : decode zY_76.2.1 61 = .ok (.aload_n 0, 1)) rfl
theorem zf_zm_76_6 (env : List (Nat × Nat)) : zI9 76 zY_76 zm_76 env (62, 1, 2, 2, 0) 65 := zi_getf (i := 48) (N := 20) (C := "TransportPair$Book") (ref := "TransportPair$Book") (T := zF_2) (by decide +kernel : decode zY_76.2.1 62 = .ok (.getfield 48, 3)) rfl zuw_2 (by decide) (zw_T zwd_341) rfl
theorem zf_zm_76_7 (env : List (Nat × Nat)) : zR9 76 env (65, 11, 0, 0, 0) := zi_iret (by decide +kernel : decode (zYf 76).2.1 65 = .ok (.ireturn, 1)) rfl
theorem zf_zm_76_8 (env : List (Nat × Nat)) : zI9 76 zY_76 zm_76 env (66, 0, 0, 0, 0) 67 := zi_aload_n (by decide +kernel : decode zY_76.2.1 66 = .ok (.aload_n 0, 1)) rfl
theorem zf_zm_76_9 (env : List (Nat × Nat)) : zI9 76 zY_76 zm_76 env (67, 1, 2, 3, 0) 70 := zi_getf (i := 16) (N := 20) (C := "TransportPair$Book") (ref := "TransportPair$Book") (T := zF_2) (by decide +kernel : decode zY_76.2.1 67 = .ok (.getfield 16, 3)) rfl zuw_2 (by decide) (zw_T zwd_331) rfl
theorem zf_zm_76_10 (env : List (Nat × Nat)) : zR9 76 env (70, 11, 0, 0, 0) := zi_iret (by decide +kernel : decode (zYf 76).2.1 70 = .ok (.ireturn, 1)) rfl
theorem zf_zm_76_11 (env : List (Nat × Nat)) : zI9 76 zY_76 zm_76 env (71, 0, 0, 0, 0) 72 := zi_aload_n (by decide +kernel : decode zY_76.2.1 71 = .ok (.aload_n 0, 1)) rfl
theorem zf_zm_76_12 (env : List (Nat × Nat)) : zI9 76 zY_76 zm_76 env (72, 1, 2, 4, 0) 75 := zi_getf (i := 20) (N := 20) (C := "TransportPair$Book") (ref := "TransportPair$Book") (T := zF_2) (by decide +kernel : decode zY_76.2.1 72 = .ok (.getfield 20, 3)) rfl zuw_2 (by decide) (zw_T zwd_332) rfl
theorem zf_zm_76_13 (env : List (Nat × Nat)) : zR9 76 env (75, 11, 0, 0, 0) := zi_iret (by decide +kernel : decode (zYf 76).2.1 75 = .ok (.ireturn, 1)) rfl
theorem zf_zm_76_14 (env : List (Nat × Nat)) : zI9 76 zY_76 zm_76 env (76, 0, 0, 0, 0) 77 := zi_aload_n (by decide +kernel : decode zY_76.2.1 76 = .ok (.aload_n 0, 1)) rfl
theorem zf_zm_76_15 (env : List (Nat × Nat)) : zI9 76 zY_76 zm_76 env (77, 1, 2, 5, 0) 80 := zi_getf (i := 23) (N := 20) (C := "TransportPair$Book") (ref := "TransportPair$Book") (T := zF_2) (by decide +kernel : decode zY_76.2.1 77 = .ok (.getfield 23, 3)) rfl zuw_2 (by decide) (zw_T zwd_333) rfl
theorem zf_zm_76_16 (env : List (Nat × Nat)) : zR9 76 env (80, 11, 0, 0, 0) := zi_iret (by decide +kernel : decode (zYf 76).2.1 80 = .ok (.ireturn, 1)) rfl
theorem zf_zm_76_17 (env : List (Nat × Nat)) : zI9 76 zY_76 zm_76 env (81, 0, 0, 0, 0) 82 := zi_aload_n (by decide +kernel : decode zY_76.2.1 81 = .ok (.aload_n 0, 1)) rfl
theorem zf_zm_76_18 (env : List (Nat × Nat)) : zI9 76 zY_76 zm_76 env (82, 1, 2, 6, 0) 85 := zi_getf (i := 26) (N := 20) (C := "TransportPair$Book") (ref := "TransportPair$Book") (T := zF_2) (by decide +kernel : decode zY_76.2.1 82 = .ok (.getfield 26, 3)) rfl zuw_2 (by decide) (zw_T zwd_334) rfl
theorem zf_zm_76_19 (env : List (Nat × Nat)) : zR9 76 env (85, 11, 0, 0, 0) := zi_iret (by decide +kernel : decode (zYf 76).2.1 85 = .ok (.ireturn, 1)) rfl
theorem zf_zm_76_20 (env : List (Nat × Nat)) : zI9 76 zY_76 zm_76 env (86, 0, 0, 0, 0) 87 := zi_aload_n (by decide +kernel : decode zY_76.2.1 86 = .ok (.aload_n 0, 1)) rfl
theorem zf_zm_76_21 (env : List (Nat × Nat)) : zI9 76 zY_76 zm_76 env (87, 1, 2, 7, 0) 90 := zi_getf (i := 29) (N := 20) (C := "TransportPair$Book") (ref := "TransportPair$Book") (T := zF_2) (by decide +kernel : decode zY_76.2.1 87 = .ok (.getfield 29, 3)) rfl zuw_2 (by decide) (zw_T zwd_335) rfl
theorem zf_zm_76_22 (env : List (Nat × Nat)) : zR9 76 env (90, 11, 0, 0, 0) := zi_iret (by decide +kernel : decode (zYf 76).2.1 90 = .ok (.ireturn, 1)) rfl
theorem zf_zm_76_23 (env : List (Nat × Nat)) : zI9 76 zY_76 zm_76 env (91, 0, 0, 0, 0) 92 := zi_aload_n (by decide +kernel : decode zY_76.2.1 91 = .ok (.aload_n 0, 1)) rfl
theorem zf_zm_76_24 (env : List (Nat × Nat)) : zI9 76 zY_76 zm_76 env (92, 1, 2, 8, 0) 95 := zi_getf (i := 51) (N := 20) (C := "TransportPair$Book") (ref := "TransportPair$Book") (T := zF_2) (by decide +kernel : decode zY_76.2.1 92 = .ok (.getfield 51, 3)) rfl zuw_2 (by decide) (zw_T zwd_342) rfl
theorem zf_zm_76_25 (env : List (Nat × Nat)) : zR9 76 env (95, 11, 0, 0, 0) := zi_iret (by decide +kernel : decode (zYf 76).2.1 95 = .ok (.ireturn, 1)) rfl
theorem zf_zm_76_26 (env : List (Nat × Nat)) : zI9 76 zY_76 zm_76 env (96, 0, 0, 0, 0) 97 := zi_aload_n (by decide +kernel : decode zY_76.2.1 96 = .ok (.aload_n 0, 1)) rfl
theorem zf_zm_76_27 (env : List (Nat × Nat)) : zI9 76 zY_76 zm_76 env (97, 1, 2, 9, 0) 100 := zi_getf (i := 32) (N := 20) (C := "TransportPair$Book") (ref := "TransportPair$Book") (T := zF_2) (by decide +kernel : decode zY_76.2.1 97 = .ok (.getfield 32, 3)) rfl zuw_2 (by decide) (zw_T zwd_336) rfl
theorem zf_zm_76_28 (env : List (Nat × Nat)) : zR9 76 env (100, 11, 0, 0, 0) := zi_iret (by decide +kernel : decode (zYf 76).2.1 100 = .ok (.ireturn, 1)) rfl
theorem zf_zm_76_29 (env : List (Nat × Nat)) : zI9 76 zY_76 zm_76 env (101, 0, 0, 0, 0) 102 := zi_aload_n (by decide +kernel : decode zY_76.2.1 101 = .ok (.aload_n 0, 1)) rfl
theorem zf_zm_76_30 (env : List (Nat × Nat)) : zI9 76 zY_76 zm_76 env (102, 1, 2, 10, 0) 105 := zi_getf (i := 54) (N := 20) (C := "TransportPair$Book") (ref := "TransportPair$Book") (T := zF_2) (by decide +kernel : decode zY_76.2.1 102 = .ok (.getfield 54, 3)) rfl zuw_2 (by decide) (zw_T zwd_343) rfl
theorem zf_zm_76_31 (env : List (Nat × Nat)) : zR9 76 env (105, 11, 0, 0, 0) := zi_iret (by decide +kernel : decode (zYf 76).2.1 105 = .ok (.ireturn, 1)) rfl
theorem zf_zm_76_32 (env : List (Nat × Nat)) : zI9 76 zY_76 zm_76 env (106, 0, 0, 0, 0) 107 := zi_aload_n (by decide +kernel : decode zY_76.2.1 106 = .ok (.aload_n 0, 1)) rfl
theorem zf_zm_76_33 (env : List (Nat × Nat)) : zC9 76 zm_76 env (107, 66, 79, 65, 4) := zi_call (by decide +kernel) (zr_V (i := 57) (n := 0) (q := ("TransportPair$Book", zF_2, 20)) zX_ok rfl (zgood_79) (by decide +kernel) (zw_T zwd_192) (zw_T zwd_344) (zw_T zwd_345) rfl (zw_T (zt_sel (y := ⟨"TransportPair$Book","limit","()I"⟩) (n := 20) 46 (by decide +kernel))) ⟨by decide +kernel, by decide +kernel, by decide +kernel⟩ rfl (by decide +kernel : decode (zYf 76).2.1 107 = .ok (.invokevirtual 57, 3)))
theorem zf_zm_76_34 (env : List (Nat × Nat)) : zR9 76 env (110, 11, 0, 0, 0) := zi_iret (by decide +kernel : decode (zYf 76).2.1 110 = .ok (.ireturn, 1)) rfl
set_option maxRecDepth 100000 in
theorem zc_zm_76 (env : List (Nat × Nat)) : zcode zX (z_QF zEX zcl zft) (z_zm zEX zX zWL zcl zft zYf) zYf zW zET zcl zft (zGv env) 76 zm_76 zm_76.1 := ⟨Or.inl ⟨1, zf_zm_76_0 env, zpc_c⟩,
  Or.inl ⟨56, zf_zm_76_1 env, zpc_c⟩,
  Or.inl ⟨57, zf_zm_76_2 env, zpc_c⟩,
  Or.inl ⟨60, zf_zm_76_3 env, zpc_c⟩,
  Or.inr (Or.inl (zf_zm_76_4 env)),
  Or.inl ⟨62, zf_zm_76_5 env, zpc_c⟩,
  Or.inl ⟨65, zf_zm_76_6 env, zpc_c⟩,
  Or.inr (Or.inl (zf_zm_76_7 env)),
  Or.inl ⟨67, zf_zm_76_8 env, zpc_c⟩,
  Or.inl ⟨70, zf_zm_76_9 env, zpc_c⟩,
  Or.inr (Or.inl (zf_zm_76_10 env)),
  Or.inl ⟨72, zf_zm_76_11 env, zpc_c⟩,
  Or.inl ⟨75, zf_zm_76_12 env, zpc_c⟩,
  Or.inr (Or.inl (zf_zm_76_13 env)),
  Or.inl ⟨77, zf_zm_76_14 env, zpc_c⟩,
  Or.inl ⟨80, zf_zm_76_15 env, zpc_c⟩,
  Or.inr (Or.inl (zf_zm_76_16 env)),
  Or.inl ⟨82, zf_zm_76_17 env, zpc_c⟩,
  Or.inl ⟨85, zf_zm_76_18 env, zpc_c⟩,
  Or.inr (Or.inl (zf_zm_76_19 env)),
  Or.inl ⟨87, zf_zm_76_20 env, zpc_c⟩,
  Or.inl ⟨90, zf_zm_76_21 env, zpc_c⟩,
  Or.inr (Or.inl (zf_zm_76_22 env)),
  Or.inl ⟨92, zf_zm_76_23 env, zpc_c⟩,
  Or.inl ⟨95, zf_zm_76_24 env, zpc_c⟩,
  Or.inr (Or.inl (zf_zm_76_25 env)),
  Or.inl ⟨97, zf_zm_76_26 env, zpc_c⟩,
  Or.inl ⟨100, zf_zm_76_27 env, zpc_c⟩,
  Or.inr (Or.inl (zf_zm_76_28 env)),
  Or.inl ⟨102, zf_zm_76_29 env, zpc_c⟩,
  Or.inl ⟨105, zf_zm_76_30 env, zpc_c⟩,
  Or.inr (Or.inl (zf_zm_76_31 env)),
  Or.inl ⟨107, zf_zm_76_32 env, zpc_c⟩,
  Or.inr (Or.inr (Or.inl ⟨zf_zm_76_33 env, zpc_c⟩)),
  Or.inr (Or.inl (zf_zm_76_34 env)), trivial⟩
theorem zf_zm_77_0 (env : List (Nat × Nat)) : zI9 77 zY_77 zm_77 env (0, 0, 0, 0, 0) 1 := zi_aload_n (by decide +kernel : decode zY_77.2.1 0 = .ok (.aload_n 0, 1)) rfl
theorem zf_zm_77_1 (env : List (Nat × Nat)) : zI9 77 zY_77 zm_77 env (1, 1, 2, 0, 2) 4 := zi_getf (i := 10) (N := 20) (C := "TransportPair$Book") (ref := "TransportPair$Book") (T := zF_2) (by decide +kernel : decode zY_77.2.1 1 = .ok (.getfield 10, 3)) rfl zuw_2 (by decide) (zw_T zwd_330) rfl
theorem zf_zm_77_2 (env : List (Nat × Nat)) : zI9 77 zY_77 zm_77 env (4, 63, 1, 0, 0) 5 := zi_iload_n (by decide +kernel : decode zY_77.2.1 4 = .ok (.iload_n 1, 1)) rfl
theorem zf_zm_77_3 (env : List (Nat × Nat)) : zI9 77 zY_77 zm_77 env (5, 19, 0, 0, 0) 6 := zi_aald zft_all (by decide +kernel : decode zY_77.2.1 5 = .ok (.aaload, 1))
theorem zf_zm_77_4 (env : List (Nat × Nat)) : zI9 77 zY_77 zm_77 env (6, 65, 3, 0, 0) 7 := zi_astore_n (by decide +kernel : decode zY_77.2.1 6 = .ok (.astore_n 3, 1)) rfl (by decide)
theorem zf_zm_77_5 (env : List (Nat × Nat)) : zI9 77 zY_77 zm_77 env (7, 63, 2, 0, 0) 8 := zi_iload_n (by decide +kernel : decode zY_77.2.1 7 = .ok (.iload_n 2, 1)) rfl
theorem zf_zm_77_6 (env : List (Nat × Nat)) : zI9 77 zY_77 zm_77 env (8, 40, 0, 0, 0) 68 := zi_switch (df := 61) (lo := 0) (tg := [7, 11, 15, 19, 24, 28, 32, 36, 40, 52, 58]) (by decide +kernel : decode zY_77.2.1 8 = .ok (.tableswitch 150 0 10 #[60, 66, 72, 78, 85, 91, 97, 103, 109, 132, 145], 60)) rfl (by decide) (by decide +kernel) (by decide +kernel)
theorem zf_zm_77_7 (env : List (Nat × Nat)) : zI9 77 zY_77 zm_77 env (68, 0, 3, 0, 0) 69 := zi_aload_n (by decide +kernel : decode zY_77.2.1 68 = .ok (.aload_n 3, 1)) rfl
theorem zf_zm_77_8 (env : List (Nat × Nat)) : zI9 77 zY_77 zm_77 env (69, 1, 11, 1, 0) 72 := zi_getf (i := 61) (N := 21) (C := "TransportPair$Space") (ref := "TransportPair$Space") (T := zF_11) (by decide +kernel : decode zY_77.2.1 69 = .ok (.getfield 61, 3)) rfl zuw_11 (by decide) (zw_T zwd_346) rfl
theorem zf_zm_77_9 (env : List (Nat × Nat)) : zI9 77 zY_77 zm_77 env (72, 16, 0, 0, 0) 73 := zi_i2l (by decide +kernel : decode zY_77.2.1 72 = .ok (.i2l, 1))
theorem zf_zm_77_10 (env : List (Nat × Nat)) : zR9 77 env (73, 11, 1, 0, 0) := zi_lret (by decide +kernel : decode (zYf 77).2.1 73 = .ok (.lreturn, 1)) rfl
theorem zf_zm_77_11 (env : List (Nat × Nat)) : zI9 77 zY_77 zm_77 env (74, 0, 3, 0, 0) 75 := zi_aload_n (by decide +kernel : decode zY_77.2.1 74 = .ok (.aload_n 3, 1)) rfl
theorem zf_zm_77_12 (env : List (Nat × Nat)) : zI9 77 zY_77 zm_77 env (75, 1, 11, 2, 0) 78 := zi_getf (i := 64) (N := 21) (C := "TransportPair$Space") (ref := "TransportPair$Space") (T := zF_11) (by decide +kernel : decode zY_77.2.1 75 = .ok (.getfield 64, 3)) rfl zuw_11 (by decide) (zw_T zwd_347) rfl
theorem zf_zm_77_13 (env : List (Nat × Nat)) : zI9 77 zY_77 zm_77 env (78, 16, 0, 0, 0) 79 := zi_i2l (by decide +kernel : decode zY_77.2.1 78 = .ok (.i2l, 1))
theorem zf_zm_77_14 (env : List (Nat × Nat)) : zR9 77 env (79, 11, 1, 0, 0) := zi_lret (by decide +kernel : decode (zYf 77).2.1 79 = .ok (.lreturn, 1)) rfl
theorem zf_zm_77_15 (env : List (Nat × Nat)) : zI9 77 zY_77 zm_77 env (80, 0, 3, 0, 0) 81 := zi_aload_n (by decide +kernel : decode zY_77.2.1 80 = .ok (.aload_n 3, 1)) rfl
theorem zf_zm_77_16 (env : List (Nat × Nat)) : zI9 77 zY_77 zm_77 env (81, 1, 11, 3, 0) 84 := zi_getf (i := 67) (N := 21) (C := "TransportPair$Space") (ref := "TransportPair$Space") (T := zF_11) (by decide +kernel : decode zY_77.2.1 81 = .ok (.getfield 67, 3)) rfl zuw_11 (by decide) (zw_T zwd_348) rfl
theorem zf_zm_77_17 (env : List (Nat × Nat)) : zI9 77 zY_77 zm_77 env (84, 16, 0, 0, 0) 85 := zi_i2l (by decide +kernel : decode zY_77.2.1 84 = .ok (.i2l, 1))
theorem zf_zm_77_18 (env : List (Nat × Nat)) : zR9 77 env (85, 11, 1, 0, 0) := zi_lret (by decide +kernel : decode (zYf 77).2.1 85 = .ok (.lreturn, 1)) rfl
theorem zf_zm_77_19 (env : List (Nat × Nat)) : zI9 77 zY_77 zm_77 env (86, 0, 0, 0, 0) 87 := zi_aload_n (by decide +kernel : decode zY_77.2.1 86 = .ok (.aload_n 0, 1)) rfl
theorem zf_zm_77_20 (env : List (Nat × Nat)) : zI9 77 zY_77 zm_77 env (87, 63, 1, 0, 0) 88 := zi_iload_n (by decide +kernel : decode zY_77.2.1 87 = .ok (.iload_n 1, 1)) rfl
theorem zf_zm_77_21 (env : List (Nat × Nat)) : zC9 77 zm_77 env (88, 66, 80, 132, 4) := zi_call (by decide +kernel) (zr_V (i := 70) (n := 1) (q := ("TransportPair$Book", zF_2, 20)) zX_ok rfl (zgood_80) (by decide +kernel) (zw_T zwd_192) (zw_T zwd_349) (zw_T zwd_350) rfl (zw_T (zt_sel (y := ⟨"TransportPair$Book","probeTime","(I)I"⟩) (n := 20) 72 (by decide +kernel))) ⟨by decide +kernel, by decide +kernel, by decide +kernel⟩ rfl (by decide +kernel : decode (zYf 77).2.1 88 = .ok (.invokevirtual 70, 3)))
theorem zf_zm_77_22 (env : List (Nat × Nat)) : zI9 77 zY_77 zm_77 env (91, 16, 0, 0, 0) 92 := zi_i2l (by decide +kernel : decode zY_77.2.1 91 = .ok (.i2l, 1))
theorem zf_zm_77_23 (env : List (Nat × Nat)) : zR9 77 env (92, 11, 1, 0, 0) := zi_lret (by decide +kernel : decode (zYf 77).2.1 92 = .ok (.lreturn, 1)) rfl
theorem zf_zm_77_24 (env : List (Nat × Nat)) : zI9 77 zY_77 zm_77 env (93, 0, 3, 0, 0) 94 := zi_aload_n (by decide +kernel : decode zY_77.2.1 93 = .ok (.aload_n 3, 1)) rfl
theorem zf_zm_77_25 (env : List (Nat × Nat)) : zI9 77 zY_77 zm_77 env (94, 1, 11, 5, 0) 97 := zi_getf (i := 74) (N := 21) (C := "TransportPair$Space") (ref := "TransportPair$Space") (T := zF_11) (by decide +kernel : decode zY_77.2.1 94 = .ok (.getfield 74, 3)) rfl zuw_11 (by decide) (zw_T zwd_351) rfl
theorem zf_zm_77_26 (env : List (Nat × Nat)) : zI9 77 zY_77 zm_77 env (97, 16, 0, 0, 0) 98 := zi_i2l (by decide +kernel : decode zY_77.2.1 97 = .ok (.i2l, 1))
theorem zf_zm_77_27 (env : List (Nat × Nat)) : zR9 77 env (98, 11, 1, 0, 0) := zi_lret (by decide +kernel : decode (zYf 77).2.1 98 = .ok (.lreturn, 1)) rfl
theorem zf_zm_77_28 (env : List (Nat × Nat)) : zI9 77 zY_77 zm_77 env (99, 0, 3, 0, 0) 100 := zi_aload_n (by decide +kernel : decode zY_77.2.1 99 = .ok (.aload_n 3, 1)) rfl
theorem zf_zm_77_29 (env : List (Nat × Nat)) : zI9 77 zY_77 zm_77 env (100, 1, 11, 6, 0) 103 := zi_getf (i := 77) (N := 21) (C := "TransportPair$Space") (ref := "TransportPair$Space") (T := zF_11) (by decide +kernel : decode zY_77.2.1 100 = .ok (.getfield 77, 3)) rfl zuw_11 (by decide) (zw_T zwd_352) rfl
theorem zf_zm_77_30 (env : List (Nat × Nat)) : zI9 77 zY_77 zm_77 env (103, 16, 0, 0, 0) 104 := zi_i2l (by decide +kernel : decode zY_77.2.1 103 = .ok (.i2l, 1))
theorem zf_zm_77_31 (env : List (Nat × Nat)) : zR9 77 env (104, 11, 1, 0, 0) := zi_lret (by decide +kernel : decode (zYf 77).2.1 104 = .ok (.lreturn, 1)) rfl
theorem zf_zm_77_32 (env : List (Nat × Nat)) : zI9 77 zY_77 zm_77 env (105, 0, 3, 0, 0) 106 := zi_aload_n (by decide +kernel : decode zY_77.2.1 105 = .ok (.aload_n 3, 1)) rfl
theorem zf_zm_77_33 (env : List (Nat × Nat)) : zI9 77 zY_77 zm_77 env (106, 1, 11, 11, 0) 109 := zi_getf (i := 80) (N := 21) (C := "TransportPair$Space") (ref := "TransportPair$Space") (T := zF_11) (by decide +kernel : decode zY_77.2.1 106 = .ok (.getfield 80, 3)) rfl zuw_11 (by decide) (zw_T zwd_353) rfl
theorem zf_zm_77_34 (env : List (Nat × Nat)) : zI9 77 zY_77 zm_77 env (109, 16, 0, 0, 0) 110 := zi_i2l (by decide +kernel : decode zY_77.2.1 109 = .ok (.i2l, 1))
theorem zf_zm_77_35 (env : List (Nat × Nat)) : zR9 77 env (110, 11, 1, 0, 0) := zi_lret (by decide +kernel : decode (zYf 77).2.1 110 = .ok (.lreturn, 1)) rfl
theorem zf_zm_77_36 (env : List (Nat × Nat)) : zI9 77 zY_77 zm_77 env (111, 0, 3, 0, 0) 112 := zi_aload_n (by decide +kernel : decode zY_77.2.1 111 = .ok (.aload_n 3, 1)) rfl
theorem zf_zm_77_37 (env : List (Nat × Nat)) : zI9 77 zY_77 zm_77 env (112, 1, 11, 13, 0) 115 := zi_getf (i := 83) (N := 21) (C := "TransportPair$Space") (ref := "TransportPair$Space") (T := zF_11) (by decide +kernel : decode zY_77.2.1 112 = .ok (.getfield 83, 3)) rfl zuw_11 (by decide) (zw_T zwd_354) rfl
theorem zf_zm_77_38 (env : List (Nat × Nat)) : zI9 77 zY_77 zm_77 env (115, 16, 0, 0, 0) 116 := zi_i2l (by decide +kernel : decode zY_77.2.1 115 = .ok (.i2l, 1))
theorem zf_zm_77_39 (env : List (Nat × Nat)) : zR9 77 env (116, 11, 1, 0, 0) := zi_lret (by decide +kernel : decode (zYf 77).2.1 116 = .ok (.lreturn, 1)) rfl
theorem zf_zm_77_40 (env : List (Nat × Nat)) : zI9 77 zY_77 zm_77 env (117, 0, 0, 0, 0) 118 := zi_aload_n (by decide +kernel : decode zY_77.2.1 117 = .ok (.aload_n 0, 1)) rfl
theorem zf_zm_77_41 (env : List (Nat × Nat)) : zI9 77 zY_77 zm_77 env (118, 63, 1, 0, 0) 119 := zi_iload_n (by decide +kernel : decode zY_77.2.1 118 = .ok (.iload_n 1, 1)) rfl
theorem zf_zm_77_42 (env : List (Nat × Nat)) : zI9 77 zY_77 zm_77 env (119, 2, 2, 0, 0) 120 := zi_iconst (by decide +kernel : decode zY_77.2.1 119 = .ok (.iconst 2, 1)) (by decide +kernel)
theorem zf_zm_77_43 (env : List (Nat × Nat)) : zI9 77 zY_77 zm_77 env (120, 29, 48, 0, 0) 123 := zi_icmp_ne (off := 14) (t := 134) (by decide +kernel : decode zY_77.2.1 120 = .ok (.if_icmp .ne 14, 3)) (by decide) (by decide +kernel)
theorem zf_zm_77_44 (env : List (Nat × Nat)) : zI9 77 zY_77 zm_77 env (123, 0, 0, 0, 0) 124 := zi_aload_n (by decide +kernel : decode zY_77.2.1 123 = .ok (.aload_n 0, 1)) rfl
theorem zf_zm_77_45 (env : List (Nat × Nat)) : zI9 77 zY_77 zm_77 env (124, 1, 2, 14, 3) 127 := zi_getf (i := 86) (N := 20) (C := "TransportPair$Book") (ref := "TransportPair$Book") (T := zF_2) (by decide +kernel : decode zY_77.2.1 124 = .ok (.getfield 86, 3)) rfl zuw_2 (by decide) (zw_T zwd_355) rfl
theorem zf_zm_77_46 (env : List (Nat × Nat)) : zI9 77 zY_77 zm_77 env (127, 5, 48, 0, 0) 130 := zi_if_eq (off := 7) (t := 134) (by decide +kernel : decode zY_77.2.1 127 = .ok (.ifCond .eq 7, 3)) (by decide) (by decide +kernel)
theorem zf_zm_77_47 (env : List (Nat × Nat)) : zI9 77 zY_77 zm_77 env (130, 99, 0, 0, 0) 134 := zi_none
theorem zf_zm_77_48 (env : List (Nat × Nat)) : zI9 77 zY_77 zm_77 env (134, 2, 0, 0, 0) 135 := zi_iconst (by decide +kernel : decode zY_77.2.1 134 = .ok (.iconst 0, 1)) (by decide +kernel)
theorem zf_zm_77_49 (env : List (Nat × Nat)) : zC9 77 zm_77 env (135, 66, 78, 130, 4) := zi_call (by decide +kernel) (zr_V (i := 90) (n := 1) (q := ("TransportPair$Book", zF_2, 20)) zX_ok rfl (zgood_78) (by decide +kernel) (zw_T zwd_192) (zw_T zwd_356) (zw_T zwd_357) rfl (zw_T zwd_358) ⟨by decide +kernel, by decide +kernel, by decide +kernel⟩ rfl (by decide +kernel : decode (zYf 77).2.1 135 = .ok (.invokevirtual 90, 3)))
theorem zf_zm_77_50 (env : List (Nat × Nat)) : zI9 77 zY_77 zm_77 env (138, 16, 0, 0, 0) 139 := zi_i2l (by decide +kernel : decode zY_77.2.1 138 = .ok (.i2l, 1))
theorem zf_zm_77_51 (env : List (Nat × Nat)) : zR9 77 env (139, 11, 1, 0, 0) := zi_lret (by decide +kernel : decode (zYf 77).2.1 139 = .ok (.lreturn, 1)) rfl
theorem zf_zm_77_52 (env : List (Nat × Nat)) : zI9 77 zY_77 zm_77 env (140, 0, 3, 0, 0) 141 := zi_aload_n (by decide +kernel : decode zY_77.2.1 140 = .ok (.aload_n 3, 1)) rfl
theorem zf_zm_77_53 (env : List (Nat × Nat)) : zI9 77 zY_77 zm_77 env (141, 1, 11, 8, 3) 144 := zi_getf (i := 94) (N := 21) (C := "TransportPair$Space") (ref := "TransportPair$Space") (T := zF_11) (by decide +kernel : decode zY_77.2.1 141 = .ok (.getfield 94, 3)) rfl zuw_11 (by decide) (zw_T zwd_359) rfl
theorem zf_zm_77_54 (env : List (Nat × Nat)) : zI9 77 zY_77 zm_77 env (144, 5, 56, 0, 0) 147 := zi_if_eq (off := 7) (t := 151) (by decide +kernel : decode zY_77.2.1 144 = .ok (.ifCond .eq 7, 3)) (by decide) (by decide +kernel)
theorem zf_zm_77_55 (env : List (Nat × Nat)) : zI9 77 zY_77 zm_77 env (147, 99, 0, 0, 0) 151 := zi_none
theorem zf_zm_77_56 (env : List (Nat × Nat)) : zI9 77 zY_77 zm_77 env (151, 15, 0, 0, 0) 152 := zi_lconst (by decide +kernel : decode zY_77.2.1 151 = .ok (.lconst 0, 1)) (by decide +kernel)
theorem zf_zm_77_57 (env : List (Nat × Nat)) : zR9 77 env (152, 11, 1, 0, 0) := zi_lret (by decide +kernel : decode (zYf 77).2.1 152 = .ok (.lreturn, 1)) rfl
theorem zf_zm_77_58 (env : List (Nat × Nat)) : zI9 77 zY_77 zm_77 env (153, 0, 3, 0, 0) 154 := zi_aload_n (by decide +kernel : decode zY_77.2.1 153 = .ok (.aload_n 3, 1)) rfl
theorem zf_zm_77_59 (env : List (Nat × Nat)) : zI9 77 zY_77 zm_77 env (154, 1, 11, 12, 1) 157 := zi_getf (i := 97) (N := 21) (C := "TransportPair$Space") (ref := "TransportPair$Space") (T := zF_11) (by decide +kernel : decode zY_77.2.1 154 = .ok (.getfield 97, 3)) rfl zuw_11 (by decide) (zw_T zwd_360) rfl
theorem zf_zm_77_60 (env : List (Nat × Nat)) : zR9 77 env (157, 11, 1, 0, 0) := zi_lret (by decide +kernel : decode (zYf 77).2.1 157 = .ok (.lreturn, 1)) rfl
theorem zf_zm_77_61 (env : List (Nat × Nat)) : zI9 77 zY_77 zm_77 env (158, 0, 3, 0, 0) 159 := zi_aload_n (by decide +kernel : decode zY_77.2.1 158 = .ok (.aload_n 3, 1)) rfl
theorem zf_zm_77_62 (env : List (Nat × Nat)) : zI9 77 zY_77 zm_77 env (159, 1, 11, 17, 3) 162 := zi_getf (i := 101) (N := 21) (C := "TransportPair$Space") (ref := "TransportPair$Space") (T := zF_11) (by decide +kernel : decode zY_77.2.1 159 = .ok (.getfield 101, 3)) rfl zuw_11 (by decide) (zw_T zwd_361) rfl
theorem zf_zm_77_63 (env : List (Nat × Nat)) : zI9 77 zY_77 zm_77 env (162, 5, 65, 0, 0) 165 := zi_if_eq (off := 7) (t := 169) (by decide +kernel : decode zY_77.2.1 162 = .ok (.ifCond .eq 7, 3)) (by decide) (by decide +kernel)
theorem zf_zm_77_64 (env : List (Nat × Nat)) : zI9 77 zY_77 zm_77 env (165, 99, 0, 0, 0) 169 := zi_none
theorem zf_zm_77_65 (env : List (Nat × Nat)) : zI9 77 zY_77 zm_77 env (169, 15, 0, 0, 0) 170 := zi_lconst (by decide +kernel : decode zY_77.2.1 169 = .ok (.lconst 0, 1)) (by decide +kernel)
theorem zf_zm_77_66 (env : List (Nat × Nat)) : zR9 77 env (170, 11, 1, 0, 0) := zi_lret (by decide +kernel : decode (zYf 77).2.1 170 = .ok (.lreturn, 1)) rfl
set_option maxRecDepth 100000 in
theorem zc_zm_77 (env : List (Nat × Nat)) : zcode zX (z_QF zEX zcl zft) (z_zm zEX zX zWL zcl zft zYf) zYf zW zET zcl zft (zGv env) 77 zm_77 zm_77.1 := ⟨Or.inl ⟨1, zf_zm_77_0 env, zpc_c⟩,
  Or.inl ⟨4, zf_zm_77_1 env, zpc_c⟩,
  Or.inl ⟨5, zf_zm_77_2 env, zpc_c⟩,
  Or.inl ⟨6, zf_zm_77_3 env, zpc_c⟩,
  Or.inl ⟨7, zf_zm_77_4 env, zpc_c⟩,
  Or.inl ⟨8, zf_zm_77_5 env, zpc_c⟩,
  Or.inl ⟨68, zf_zm_77_6 env, zpc_c⟩,
  Or.inl ⟨69, zf_zm_77_7 env, zpc_c⟩,
  Or.inl ⟨72, zf_zm_77_8 env, zpc_c⟩,
  Or.inl ⟨73, zf_zm_77_9 env, zpc_c⟩,
  Or.inr (Or.inl (zf_zm_77_10 env)),
  Or.inl ⟨75, zf_zm_77_11 env, zpc_c⟩,
  Or.inl ⟨78, zf_zm_77_12 env, zpc_c⟩,
  Or.inl ⟨79, zf_zm_77_13 env, zpc_c⟩,
  Or.inr (Or.inl (zf_zm_77_14 env)),
  Or.inl ⟨81, zf_zm_77_15 env, zpc_c⟩,
  Or.inl ⟨84, zf_zm_77_16 env, zpc_c⟩,
  Or.inl ⟨85, zf_zm_77_17 env, zpc_c⟩,
  Or.inr (Or.inl (zf_zm_77_18 env)),
  Or.inl ⟨87, zf_zm_77_19 env, zpc_c⟩,
  Or.inl ⟨88, zf_zm_77_20 env, zpc_c⟩,
  Or.inr (Or.inr (Or.inl ⟨zf_zm_77_21 env, zpc_c⟩)),
  Or.inl ⟨92, zf_zm_77_22 env, zpc_c⟩,
  Or.inr (Or.inl (zf_zm_77_23 env)),
  Or.inl ⟨94, zf_zm_77_24 env, zpc_c⟩,
  Or.inl ⟨97, zf_zm_77_25 env, zpc_c⟩,
  Or.inl ⟨98, zf_zm_77_26 env, zpc_c⟩,
  Or.inr (Or.inl (zf_zm_77_27 env)),
  Or.inl ⟨100, zf_zm_77_28 env, zpc_c⟩,
  Or.inl ⟨103, zf_zm_77_29 env, zpc_c⟩,
  Or.inl ⟨104, zf_zm_77_30 env, zpc_c⟩,
  Or.inr (Or.inl (zf_zm_77_31 env)),
  Or.inl ⟨106, zf_zm_77_32 env, zpc_c⟩,
  Or.inl ⟨109, zf_zm_77_33 env, zpc_c⟩,
  Or.inl ⟨110, zf_zm_77_34 env, zpc_c⟩,
  Or.inr (Or.inl (zf_zm_77_35 env)),
  Or.inl ⟨112, zf_zm_77_36 env, zpc_c⟩,
  Or.inl ⟨115, zf_zm_77_37 env, zpc_c⟩,
  Or.inl ⟨116, zf_zm_77_38 env, zpc_c⟩,
  Or.inr (Or.inl (zf_zm_77_39 env)),
  Or.inl ⟨118, zf_zm_77_40 env, zpc_c⟩,
  Or.inl ⟨119, zf_zm_77_41 env, zpc_c⟩,
  Or.inl ⟨120, zf_zm_77_42 env, zpc_c⟩,
  Or.inl ⟨123, zf_zm_77_43 env, zpc_c⟩,
  Or.inl ⟨124, zf_zm_77_44 env, zpc_c⟩,
  Or.inl ⟨127, zf_zm_77_45 env, zpc_c⟩,
  Or.inl ⟨130, zf_zm_77_46 env, zpc_c⟩,
  Or.inl ⟨134, zf_zm_77_47 env, zpc_c⟩,
  Or.inl ⟨135, zf_zm_77_48 env, zpc_c⟩,
  Or.inr (Or.inr (Or.inl ⟨zf_zm_77_49 env, zpc_c⟩)),
  Or.inl ⟨139, zf_zm_77_50 env, zpc_c⟩,
  Or.inr (Or.inl (zf_zm_77_51 env)),
  Or.inl ⟨141, zf_zm_77_52 env, zpc_c⟩,
  Or.inl ⟨144, zf_zm_77_53 env, zpc_c⟩,
  Or.inl ⟨147, zf_zm_77_54 env, zpc_c⟩,
  Or.inl ⟨151, zf_zm_77_55 env, zpc_c⟩,
  Or.inl ⟨152, zf_zm_77_56 env, zpc_c⟩,
  Or.inr (Or.inl (zf_zm_77_57 env)),
  Or.inl ⟨154, zf_zm_77_58 env, zpc_c⟩,
  Or.inl ⟨157, zf_zm_77_59 env, zpc_c⟩,
  Or.inr (Or.inl (zf_zm_77_60 env)),
  Or.inl ⟨159, zf_zm_77_61 env, zpc_c⟩,
  Or.inl ⟨162, zf_zm_77_62 env, zpc_c⟩,
  Or.inl ⟨165, zf_zm_77_63 env, zpc_c⟩,
  Or.inl ⟨169, zf_zm_77_64 env, zpc_c⟩,
  Or.inl ⟨170, zf_zm_77_65 env, zpc_c⟩,
  Or.inr (Or.inl (zf_zm_77_66 env)), trivial⟩
theorem zf_zm_78_0 (env : List (Nat × Nat)) : zI9 78 zY_78 zm_78 env (0, 0, 0, 0, 0) 1 := zi_aload_n (by decide +kernel : decode zY_78.2.1 0 = .ok (.aload_n 0, 1)) rfl
theorem zf_zm_78_1 (env : List (Nat × Nat)) : zI9 78 zY_78 zm_78 env (1, 1, 2, 6, 0) 4 := zi_getf (i := 26) (N := 20) (C := "TransportPair$Book") (ref := "TransportPair$Book") (T := zF_2) (by decide +kernel : decode zY_78.2.1 1 = .ok (.getfield 26, 3)) rfl zuw_2 (by decide) (zw_T zwd_334) rfl
theorem zf_zm_78_2 (env : List (Nat × Nat)) : zI9 78 zY_78 zm_78 env (4, 2, 8, 0, 0) 6 := zi_bipush (by decide +kernel : decode zY_78.2.1 4 = .ok (.bipush 8, 2)) (by decide +kernel)
theorem zf_zm_78_3 (env : List (Nat × Nat)) : zI9 78 zY_78 zm_78 env (6, 42, 0, 0, 0) 7 := zi_idiv (by decide +kernel : decode zY_78.2.1 6 = .ok (.idiv, 1))
theorem zf_zm_78_4 (env : List (Nat × Nat)) : zI9 78 zY_78 zm_78 env (7, 0, 0, 0, 0) 8 := zi_aload_n (by decide +kernel : decode zY_78.2.1 7 = .ok (.aload_n 0, 1)) rfl
theorem zf_zm_78_5 (env : List (Nat × Nat)) : zI9 78 zY_78 zm_78 env (8, 1, 2, 7, 0) 11 := zi_getf (i := 29) (N := 20) (C := "TransportPair$Book") (ref := "TransportPair$Book") (T := zF_2) (by decide +kernel : decode zY_78.2.1 8 = .ok (.getfield 29, 3)) rfl zuw_2 (by decide) (zw_T zwd_335) rfl
theorem zf_zm_78_6 (env : List (Nat × Nat)) : zI9 78 zY_78 zm_78 env (11, 2, 1, 0, 0) 12 := zi_iconst (by decide +kernel : decode zY_78.2.1 11 = .ok (.iconst 1, 1)) (by decide +kernel)
theorem zf_zm_78_7 (env : List (Nat × Nat)) : zI9 78 zY_78 zm_78 env (12, 57, 0, 0, 0) 15 := zi_max (i := 104) (by decide +kernel : decode zY_78.2.1 12 = .ok (.invokestatic 104, 3)) (zw_T zwd_362) (zw_T zwd_172) (zw_T zwd_173) (zw_T zwd_174)
theorem zf_zm_78_8 (env : List (Nat × Nat)) : zI9 78 zY_78 zm_78 env (15, 9, 0, 0, 0) 16 := zi_iadd (by decide +kernel : decode zY_78.2.1 15 = .ok (.iadd, 1))
theorem zf_zm_78_9 (env : List (Nat × Nat)) : zI9 78 zY_78 zm_78 env (16, 63, 1, 0, 0) 17 := zi_iload_n (by decide +kernel : decode zY_78.2.1 16 = .ok (.iload_n 1, 1)) rfl
theorem zf_zm_78_10 (env : List (Nat × Nat)) : zI9 78 zY_78 zm_78 env (17, 5, 12, 0, 0) 20 := zi_if_eq (off := 8) (t := 25) (by decide +kernel : decode zY_78.2.1 17 = .ok (.ifCond .eq 8, 3)) (by decide) (by decide +kernel)
theorem zf_zm_78_11 (env : List (Nat × Nat)) : zI9 78 zY_78 zm_78 env (20, 99, 0, 0, 0) 25 := zi_none
theorem zf_zm_78_12 (env : List (Nat × Nat)) : zI9 78 zY_78 zm_78 env (25, 2, 0, 0, 0) 26 := zi_iconst (by decide +kernel : decode zY_78.2.1 25 = .ok (.iconst 0, 1)) (by decide +kernel)
theorem zf_zm_78_13 (env : List (Nat × Nat)) : zI9 78 zY_78 zm_78 env (26, 9, 0, 0, 0) 27 := zi_iadd (by decide +kernel : decode zY_78.2.1 26 = .ok (.iadd, 1))
theorem zf_zm_78_14 (env : List (Nat × Nat)) : zR9 78 env (27, 11, 0, 0, 0) := zi_iret (by decide +kernel : decode (zYf 78).2.1 27 = .ok (.ireturn, 1)) rfl
set_option maxRecDepth 100000 in
theorem zc_zm_78 (env : List (Nat × Nat)) : zcode zX (z_QF zEX zcl zft) (z_zm zEX zX zWL zcl zft zYf) zYf zW zET zcl zft (zGv env) 78 zm_78 zm_78.1 := ⟨Or.inl ⟨1, zf_zm_78_0 env, zpc_c⟩,
  Or.inl ⟨4, zf_zm_78_1 env, zpc_c⟩,
  Or.inl ⟨6, zf_zm_78_2 env, zpc_c⟩,
  Or.inl ⟨7, zf_zm_78_3 env, zpc_c⟩,
  Or.inl ⟨8, zf_zm_78_4 env, zpc_c⟩,
  Or.inl ⟨11, zf_zm_78_5 env, zpc_c⟩,
  Or.inl ⟨12, zf_zm_78_6 env, zpc_c⟩,
  Or.inl ⟨15, zf_zm_78_7 env, zpc_c⟩,
  Or.inl ⟨16, zf_zm_78_8 env, zpc_c⟩,
  Or.inl ⟨17, zf_zm_78_9 env, zpc_c⟩,
  Or.inl ⟨20, zf_zm_78_10 env, zpc_c⟩,
  Or.inl ⟨25, zf_zm_78_11 env, zpc_c⟩,
  Or.inl ⟨26, zf_zm_78_12 env, zpc_c⟩,
  Or.inl ⟨27, zf_zm_78_13 env, zpc_c⟩,
  Or.inr (Or.inl (zf_zm_78_14 env)), trivial⟩
theorem zf_zm_79_0 (env : List (Nat × Nat)) : zI9 79 zY_79 zm_79 env (0, 2, 9, 0, 0) 2 := zi_bipush (by decide +kernel : decode zY_79.2.1 0 = .ok (.bipush 9, 2)) (by decide +kernel)
theorem zf_zm_79_1 (env : List (Nat × Nat)) : zI9 79 zY_79 zm_79 env (2, 0, 0, 0, 0) 3 := zi_aload_n (by decide +kernel : decode zY_79.2.1 2 = .ok (.aload_n 0, 1)) rfl
theorem zf_zm_79_2 (env : List (Nat × Nat)) : zI9 79 zY_79 zm_79 env (3, 1, 2, 6, 0) 6 := zi_getf (i := 26) (N := 20) (C := "TransportPair$Book") (ref := "TransportPair$Book") (T := zF_2) (by decide +kernel : decode zY_79.2.1 3 = .ok (.getfield 26, 3)) rfl zuw_2 (by decide) (zw_T zwd_334) rfl
theorem zf_zm_79_3 (env : List (Nat × Nat)) : zI9 79 zY_79 zm_79 env (6, 2, 8, 0, 0) 8 := zi_bipush (by decide +kernel : decode zY_79.2.1 6 = .ok (.bipush 8, 2)) (by decide +kernel)
theorem zf_zm_79_4 (env : List (Nat × Nat)) : zI9 79 zY_79 zm_79 env (8, 42, 0, 0, 0) 9 := zi_idiv (by decide +kernel : decode zY_79.2.1 8 = .ok (.idiv, 1))
theorem zf_zm_79_5 (env : List (Nat × Nat)) : zI9 79 zY_79 zm_79 env (9, 0, 0, 0, 0) 10 := zi_aload_n (by decide +kernel : decode zY_79.2.1 9 = .ok (.aload_n 0, 1)) rfl
theorem zf_zm_79_6 (env : List (Nat × Nat)) : zI9 79 zY_79 zm_79 env (10, 1, 2, 8, 0) 13 := zi_getf (i := 51) (N := 20) (C := "TransportPair$Book") (ref := "TransportPair$Book") (T := zF_2) (by decide +kernel : decode zY_79.2.1 10 = .ok (.getfield 51, 3)) rfl zuw_2 (by decide) (zw_T zwd_342) rfl
theorem zf_zm_79_7 (env : List (Nat × Nat)) : zI9 79 zY_79 zm_79 env (13, 57, 0, 0, 0) 16 := zi_max (i := 104) (by decide +kernel : decode zY_79.2.1 13 = .ok (.invokestatic 104, 3)) (zw_T zwd_362) (zw_T zwd_172) (zw_T zwd_173) (zw_T zwd_174)
theorem zf_zm_79_8 (env : List (Nat × Nat)) : zI9 79 zY_79 zm_79 env (16, 36, 0, 0, 0) 17 := zi_imul (by decide +kernel : decode zY_79.2.1 16 = .ok (.imul, 1))
theorem zf_zm_79_9 (env : List (Nat × Nat)) : zI9 79 zY_79 zm_79 env (17, 2, 8, 0, 0) 19 := zi_bipush (by decide +kernel : decode zY_79.2.1 17 = .ok (.bipush 8, 2)) (by decide +kernel)
theorem zf_zm_79_10 (env : List (Nat × Nat)) : zI9 79 zY_79 zm_79 env (19, 42, 0, 0, 0) 20 := zi_idiv (by decide +kernel : decode zY_79.2.1 19 = .ok (.idiv, 1))
theorem zf_zm_79_11 (env : List (Nat × Nat)) : zI9 79 zY_79 zm_79 env (20, 2, 1, 0, 0) 21 := zi_iconst (by decide +kernel : decode zY_79.2.1 20 = .ok (.iconst 1, 1)) (by decide +kernel)
theorem zf_zm_79_12 (env : List (Nat × Nat)) : zI9 79 zY_79 zm_79 env (21, 57, 0, 0, 0) 24 := zi_max (i := 104) (by decide +kernel : decode zY_79.2.1 21 = .ok (.invokestatic 104, 3)) (zw_T zwd_362) (zw_T zwd_172) (zw_T zwd_173) (zw_T zwd_174)
theorem zf_zm_79_13 (env : List (Nat × Nat)) : zR9 79 env (24, 11, 0, 0, 0) := zi_iret (by decide +kernel : decode (zYf 79).2.1 24 = .ok (.ireturn, 1)) rfl
set_option maxRecDepth 100000 in
theorem zc_zm_79 (env : List (Nat × Nat)) : zcode zX (z_QF zEX zcl zft) (z_zm zEX zX zWL zcl zft zYf) zYf zW zET zcl zft (zGv env) 79 zm_79 zm_79.1 := ⟨Or.inl ⟨2, zf_zm_79_0 env, zpc_c⟩,
  Or.inl ⟨3, zf_zm_79_1 env, zpc_c⟩,
  Or.inl ⟨6, zf_zm_79_2 env, zpc_c⟩,
  Or.inl ⟨8, zf_zm_79_3 env, zpc_c⟩,
  Or.inl ⟨9, zf_zm_79_4 env, zpc_c⟩,
  Or.inl ⟨10, zf_zm_79_5 env, zpc_c⟩,
  Or.inl ⟨13, zf_zm_79_6 env, zpc_c⟩,
  Or.inl ⟨16, zf_zm_79_7 env, zpc_c⟩,
  Or.inl ⟨17, zf_zm_79_8 env, zpc_c⟩,
  Or.inl ⟨19, zf_zm_79_9 env, zpc_c⟩,
  Or.inl ⟨20, zf_zm_79_10 env, zpc_c⟩,
  Or.inl ⟨21, zf_zm_79_11 env, zpc_c⟩,
  Or.inl ⟨24, zf_zm_79_12 env, zpc_c⟩,
  Or.inr (Or.inl (zf_zm_79_13 env)), trivial⟩
