/-! FACTS (by program) -/
theorem zf_zfT_0 (env : List (Nat × Nat)) : zI9 170 zY_170 zfT env (0, 99, 0, 0, 0) 46 := zi_none
theorem zf_zfT_1 (env : List (Nat × Nat)) : zI9 170 zY_170 zfT env (46, 0, 0, 0, 0) 47 := zi_aload_n (by decide +kernel : decode zY_170.2.1 46 = .ok (.aload_n 0, 1)) rfl
theorem zf_zfT_2 (env : List (Nat × Nat)) : zI9 170 zY_170 zfT env (47, 13, 0, 0, 0) 48 := zi_dup (by decide +kernel : decode zY_170.2.1 47 = .ok (.dup, 1))
theorem zf_zfT_3 (env : List (Nat × Nat)) : zI9 170 zY_170 zfT env (48, 1, 0, 6, 0) 51 := zi_getf (i := 213) (N := 8) (C := "TransportPair") (ref := "TransportPair") (T := zF_0) (by decide +kernel : decode zY_170.2.1 48 = .ok (.getfield 213, 3)) rfl zuw_0 (by decide) (zw_T zwd_780) rfl
theorem zf_zfT_4 (env : List (Nat × Nat)) : zI9 170 zY_170 zfT env (51, 2, 1, 0, 0) 52 := zi_iconst (by decide +kernel : decode zY_170.2.1 51 = .ok (.iconst 1, 1)) (by decide +kernel)
theorem zf_zfT_5 (env : List (Nat × Nat)) : zI9 170 zY_170 zfT env (52, 9, 0, 0, 0) 53 := zi_iadd (by decide +kernel : decode zY_170.2.1 52 = .ok (.iadd, 1))
theorem zf_zfT_6 (env : List (Nat × Nat)) : zI9 170 zY_170 zfT env (53, 4, 0, 6, 0) 56 := zi_putf (i := 213) (N := 8) (C := "TransportPair") (ref := "TransportPair") (T := zF_0) (by decide +kernel : decode zY_170.2.1 53 = .ok (.putfield 213, 3)) rfl zuw_0 zFt_0 zFn_0 (by decide) (zw_T zwd_780) rfl rfl (ty := .int) (by decide +kernel) (rfl)
theorem zf_zfT_7 (env : List (Nat × Nat)) : zI9 170 zY_170 zfT env (56, 2, 0, 0, 0) 57 := zi_iconst (by decide +kernel : decode zY_170.2.1 56 = .ok (.iconst 0, 1)) (by decide +kernel)
theorem zf_zfT_8 (env : List (Nat × Nat)) : zI9 170 zY_170 zfT env (57, 10, 3, 0, 0) 58 := zi_istore_n (by decide +kernel : decode zY_170.2.1 57 = .ok (.istore_n 3, 1)) rfl (by decide)
theorem zf_zfT_9 (env : List (Nat × Nat)) : zI9 170 zY_170 zfT env (58, 63, 3, 0, 0) 59 := zi_iload_n (by decide +kernel : decode zY_170.2.1 58 = .ok (.iload_n 3, 1)) rfl
theorem zf_zfT_10 (env : List (Nat × Nat)) : zI9 170 zY_170 zfT env (59, 2, 2, 0, 0) 60 := zi_iconst (by decide +kernel : decode zY_170.2.1 59 = .ok (.iconst 2, 1)) (by decide +kernel)
theorem zf_zfT_11 (env : List (Nat × Nat)) : zI9 170 zY_170 zfT env (60, 28, 16, 0, 0) 63 := zi_icmp_ge (off := 104) (t := 164) (by decide +kernel : decode zY_170.2.1 60 = .ok (.if_icmp .ge 104, 3)) (by decide) (by decide +kernel)
theorem zf_zfT_12 (env : List (Nat × Nat)) : zI9 170 zY_170 zfT env (63, 0, 0, 0, 0) 64 := zi_aload_n (by decide +kernel : decode zY_170.2.1 63 = .ok (.aload_n 0, 1)) rfl
theorem zf_zfT_13 (env : List (Nat × Nat)) : zI9 170 zY_170 zfT env (64, 1, 0, 7, 0) 67 := zi_getf (i := 210) (N := 8) (C := "TransportPair") (ref := "TransportPair") (T := zF_0) (by decide +kernel : decode zY_170.2.1 64 = .ok (.getfield 210, 3)) rfl zuw_0 (by decide) (zw_T zwd_184) rfl
theorem zf_zfT_14 (env : List (Nat × Nat)) : zI9 170 zY_170 zfT env (67, 25, 16, 0, 0) 70 := zi_if_le (off := 97) (t := 164) (by decide +kernel : decode zY_170.2.1 67 = .ok (.ifCond .le 97, 3)) (by decide) (by decide +kernel)
theorem zf_zfT_15 (env : List (Nat × Nat)) : zI9 170 zY_170 zfT env (70, 99, 0, 0, 0) 164 := zi_none
theorem zf_zfT_16 (env : List (Nat × Nat)) : zI9 170 zY_170 zfT env (164, 0, 0, 0, 0) 165 := zi_aload_n (by decide +kernel : decode zY_170.2.1 164 = .ok (.aload_n 0, 1)) rfl
theorem zf_zfT_17 (env : List (Nat × Nat)) : zI9 170 zY_170 zfT env (165, 1, 0, 1, 2) 168 := zi_getf (i := 27) (N := 8) (C := "TransportPair") (ref := "TransportPair") (T := zF_0) (by decide +kernel : decode zY_170.2.1 165 = .ok (.getfield 27, 3)) rfl zuw_0 (by decide) (zw_T zwd_116) rfl
theorem zf_zfT_18 (env : List (Nat × Nat)) : zI9 170 zY_170 zfT env (168, 2, 0, 0, 0) 169 := zi_iconst (by decide +kernel : decode zY_170.2.1 168 = .ok (.iconst 0, 1)) (by decide +kernel)
theorem zf_zfT_19 (env : List (Nat × Nat)) : zI9 170 zY_170 zfT env (169, 19, 0, 0, 0) 170 := zi_aald zft_all (by decide +kernel : decode zY_170.2.1 169 = .ok (.aaload, 1))
theorem zf_zfT_20 (env : List (Nat × Nat)) : zI9 170 zY_170 zfT env (170, 0, 0, 0, 0) 171 := zi_aload_n (by decide +kernel : decode zY_170.2.1 170 = .ok (.aload_n 0, 1)) rfl
theorem zf_zfT_21 (env : List (Nat × Nat)) : zI9 170 zY_170 zfT env (171, 1, 0, 0, 2) 174 := zi_getf (i := 16) (N := 8) (C := "TransportPair") (ref := "TransportPair") (T := zF_0) (by decide +kernel : decode zY_170.2.1 171 = .ok (.getfield 16, 3)) rfl zuw_0 (by decide) (zw_T zwd_109) rfl
theorem zf_zfT_22 (env : List (Nat × Nat)) : zI9 170 zY_170 zfT env (174, 2, 0, 0, 0) 175 := zi_iconst (by decide +kernel : decode zY_170.2.1 174 = .ok (.iconst 0, 1)) (by decide +kernel)
theorem zf_zfT_23 (env : List (Nat × Nat)) : zI9 170 zY_170 zfT env (175, 19, 0, 0, 0) 176 := zi_aald zft_all (by decide +kernel : decode zY_170.2.1 175 = .ok (.aaload, 1))
theorem zf_zfT_24 (env : List (Nat × Nat)) : zC9 170 zfT env (176, 66, 95, 134, 12) := zi_call (by decide +kernel) (zr_V (i := 219) (n := 1) (q := ("TransportPair$Side", zF_10, 22)) zX_ok rfl (zgood_95) (by decide +kernel) (zw_T zwd_113) (zw_T zwd_933) (zw_T zwd_934) rfl (zw_T zwd_935) ⟨by decide +kernel, by decide +kernel, by decide +kernel⟩ rfl (by decide +kernel : decode (zYf 170).2.1 176 = .ok (.invokevirtual 219, 3)))
theorem zf_zfT_25 (env : List (Nat × Nat)) : zI9 170 zY_170 zfT env (179, 0, 0, 0, 0) 180 := zi_aload_n (by decide +kernel : decode zY_170.2.1 179 = .ok (.aload_n 0, 1)) rfl
theorem zf_zfT_26 (env : List (Nat × Nat)) : zI9 170 zY_170 zfT env (180, 1, 0, 1, 2) 183 := zi_getf (i := 27) (N := 8) (C := "TransportPair") (ref := "TransportPair") (T := zF_0) (by decide +kernel : decode zY_170.2.1 180 = .ok (.getfield 27, 3)) rfl zuw_0 (by decide) (zw_T zwd_116) rfl
theorem zf_zfT_27 (env : List (Nat × Nat)) : zI9 170 zY_170 zfT env (183, 2, 1, 0, 0) 184 := zi_iconst (by decide +kernel : decode zY_170.2.1 183 = .ok (.iconst 1, 1)) (by decide +kernel)
theorem zf_zfT_28 (env : List (Nat × Nat)) : zI9 170 zY_170 zfT env (184, 19, 0, 0, 0) 185 := zi_aald zft_all (by decide +kernel : decode zY_170.2.1 184 = .ok (.aaload, 1))
theorem zf_zfT_29 (env : List (Nat × Nat)) : zI9 170 zY_170 zfT env (185, 0, 0, 0, 0) 186 := zi_aload_n (by decide +kernel : decode zY_170.2.1 185 = .ok (.aload_n 0, 1)) rfl
theorem zf_zfT_30 (env : List (Nat × Nat)) : zI9 170 zY_170 zfT env (186, 1, 0, 0, 2) 189 := zi_getf (i := 16) (N := 8) (C := "TransportPair") (ref := "TransportPair") (T := zF_0) (by decide +kernel : decode zY_170.2.1 186 = .ok (.getfield 16, 3)) rfl zuw_0 (by decide) (zw_T zwd_109) rfl
theorem zf_zfT_31 (env : List (Nat × Nat)) : zI9 170 zY_170 zfT env (189, 2, 1, 0, 0) 190 := zi_iconst (by decide +kernel : decode zY_170.2.1 189 = .ok (.iconst 1, 1)) (by decide +kernel)
theorem zf_zfT_32 (env : List (Nat × Nat)) : zI9 170 zY_170 zfT env (190, 19, 0, 0, 0) 191 := zi_aald zft_all (by decide +kernel : decode zY_170.2.1 190 = .ok (.aaload, 1))
theorem zf_zfT_33 (env : List (Nat × Nat)) : zC9 170 zfT env (191, 66, 95, 134, 12) := zi_call (by decide +kernel) (zr_V (i := 219) (n := 1) (q := ("TransportPair$Side", zF_10, 22)) zX_ok rfl (zgood_95) (by decide +kernel) (zw_T zwd_113) (zw_T zwd_933) (zw_T zwd_934) rfl (zw_T zwd_935) ⟨by decide +kernel, by decide +kernel, by decide +kernel⟩ rfl (by decide +kernel : decode (zYf 170).2.1 191 = .ok (.invokevirtual 219, 3)))
theorem zf_zfT_34 (env : List (Nat × Nat)) : zI9 170 zY_170 zfT env (194, 35, 2, 1, 0) 197 := zi_iinc (by decide +kernel : decode zY_170.2.1 194 = .ok (.iinc 2 1, 3)) (by decide +kernel) (by decide)
theorem zf_zfT_35 (env : List (Nat × Nat)) : zI9 170 zY_170 zfT env (197, 7, 37, 0, 0) 200 := zi_goto (off := (-156)) (t := 41) (by decide +kernel : decode zY_170.2.1 197 = .ok (.goto (-156), 3)) (by decide) (by decide +kernel)
theorem zf_zfT_36 (env : List (Nat × Nat)) : zI9 170 zY_170 zfT env (200, 99, 0, 0, 0) 41 := zi_none
theorem zf_zfT_37 (env : List (Nat × Nat)) : zI9 170 zY_170 zfT env (41, 78, 0, 0, 0) 41 := zi_stop
set_option maxRecDepth 100000 in
theorem zc_zfT (env : List (Nat × Nat)) : zcode zX (z_QF zEX zcl zft) (z_zm zEX zX zWL zcl zft zYf) zYf zW zET zcl zft (zGv env) 170 zfT zfT.1 := ⟨Or.inl ⟨46, zf_zfT_0 env, zpc_c⟩,
  Or.inl ⟨47, zf_zfT_1 env, zpc_c⟩,
  Or.inl ⟨48, zf_zfT_2 env, zpc_c⟩,
  Or.inl ⟨51, zf_zfT_3 env, zpc_c⟩,
  Or.inl ⟨52, zf_zfT_4 env, zpc_c⟩,
  Or.inl ⟨53, zf_zfT_5 env, zpc_c⟩,
  Or.inl ⟨56, zf_zfT_6 env, zpc_c⟩,
  Or.inl ⟨57, zf_zfT_7 env, zpc_c⟩,
  Or.inl ⟨58, zf_zfT_8 env, zpc_c⟩,
  Or.inl ⟨59, zf_zfT_9 env, zpc_c⟩,
  Or.inl ⟨60, zf_zfT_10 env, zpc_c⟩,
  Or.inl ⟨63, zf_zfT_11 env, zpc_c⟩,
  Or.inl ⟨64, zf_zfT_12 env, zpc_c⟩,
  Or.inl ⟨67, zf_zfT_13 env, zpc_c⟩,
  Or.inl ⟨70, zf_zfT_14 env, zpc_c⟩,
  Or.inl ⟨164, zf_zfT_15 env, zpc_c⟩,
  Or.inl ⟨165, zf_zfT_16 env, zpc_c⟩,
  Or.inl ⟨168, zf_zfT_17 env, zpc_c⟩,
  Or.inl ⟨169, zf_zfT_18 env, zpc_c⟩,
  Or.inl ⟨170, zf_zfT_19 env, zpc_c⟩,
  Or.inl ⟨171, zf_zfT_20 env, zpc_c⟩,
  Or.inl ⟨174, zf_zfT_21 env, zpc_c⟩,
  Or.inl ⟨175, zf_zfT_22 env, zpc_c⟩,
  Or.inl ⟨176, zf_zfT_23 env, zpc_c⟩,
  Or.inr (Or.inr (Or.inl ⟨zf_zfT_24 env, zpc_c⟩)),
  Or.inl ⟨180, zf_zfT_25 env, zpc_c⟩,
  Or.inl ⟨183, zf_zfT_26 env, zpc_c⟩,
  Or.inl ⟨184, zf_zfT_27 env, zpc_c⟩,
  Or.inl ⟨185, zf_zfT_28 env, zpc_c⟩,
  Or.inl ⟨186, zf_zfT_29 env, zpc_c⟩,
  Or.inl ⟨189, zf_zfT_30 env, zpc_c⟩,
  Or.inl ⟨190, zf_zfT_31 env, zpc_c⟩,
  Or.inl ⟨191, zf_zfT_32 env, zpc_c⟩,
  Or.inr (Or.inr (Or.inl ⟨zf_zfT_33 env, zpc_c⟩)),
  Or.inl ⟨197, zf_zfT_34 env, zpc_c⟩,
  Or.inl ⟨200, zf_zfT_35 env, zpc_c⟩,
  Or.inl ⟨41, zf_zfT_36 env, zpc_c⟩,
  Or.inl ⟨41, zf_zfT_37 env, zpc_n⟩, trivial⟩
theorem zf_zfM_0 (env : List (Nat × Nat)) : zI9 171 zY_171 zfM env (0, 99, 0, 0, 0) 58 := zi_none
theorem zf_zfM_1 (env : List (Nat × Nat)) : zI9 171 zY_171 zfM env (58, 0, 0, 0, 0) 59 := zi_aload_n (by decide +kernel : decode zY_171.2.1 58 = .ok (.aload_n 0, 1)) rfl
theorem zf_zfM_2 (env : List (Nat × Nat)) : zC9 171 zfM env (59, 66, 67, 69, 3) := zi_call (by decide +kernel) (zr_V (i := 206) (n := 0) (q := ("TransportPairModel", zF_1, 23)) zX_ok rfl (zgood_67) (by decide +kernel) (zw_T zwd_250) (zw_T zwd_936) (zw_T zwd_937) rfl (zw_T (zt_sel (y := ⟨"TransportPairModel","ticks","()V"⟩) (n := 23) 195 (by decide +kernel))) ⟨by decide +kernel, by decide +kernel, by decide +kernel⟩ rfl (by decide +kernel : decode (zYf 171).2.1 59 = .ok (.invokevirtual 206, 3)))
theorem zf_zfM_3 (env : List (Nat × Nat)) : zI9 171 zY_171 zfM env (62, 35, 2, 1, 0) 65 := zi_iinc (by decide +kernel : decode zY_171.2.1 62 = .ok (.iinc 2 1, 3)) (by decide +kernel) (by decide)
theorem zf_zfM_4 (env : List (Nat × Nat)) : zI9 171 zY_171 zfM env (65, 7, 6, 0, 0) 68 := zi_goto (off := (-12)) (t := 53) (by decide +kernel : decode zY_171.2.1 65 = .ok (.goto (-12), 3)) (by decide) (by decide +kernel)
theorem zf_zfM_5 (env : List (Nat × Nat)) : zI9 171 zY_171 zfM env (68, 99, 0, 0, 0) 53 := zi_none
theorem zf_zfM_6 (env : List (Nat × Nat)) : zI9 171 zY_171 zfM env (53, 78, 0, 0, 0) 53 := zi_stop
set_option maxRecDepth 100000 in
theorem zc_zfM (env : List (Nat × Nat)) : zcode zX (z_QF zEX zcl zft) (z_zm zEX zX zWL zcl zft zYf) zYf zW zET zcl zft (zGv env) 171 zfM zfM.1 := ⟨Or.inl ⟨58, zf_zfM_0 env, zpc_c⟩,
  Or.inl ⟨59, zf_zfM_1 env, zpc_c⟩,
  Or.inr (Or.inr (Or.inl ⟨zf_zfM_2 env, zpc_c⟩)),
  Or.inl ⟨65, zf_zfM_3 env, zpc_c⟩,
  Or.inl ⟨68, zf_zfM_4 env, zpc_c⟩,
  Or.inl ⟨53, zf_zfM_5 env, zpc_c⟩,
  Or.inl ⟨53, zf_zfM_6 env, zpc_n⟩, trivial⟩
