/-! FACTS (by program) -/
theorem zf_zm_170_0 (env : List (Nat × Nat)) : zI9 170 zY_170 zm_170 env (0, 63, 1, 0, 0) 1 := zi_iload_n (by decide +kernel : decode zY_170.2.1 0 = .ok (.iload_n 1, 1)) rfl
theorem zf_zm_170_1 (env : List (Nat × Nat)) : zI9 170 zY_170 zm_170 env (1, 2, 1, 0, 0) 2 := zi_iconst (by decide +kernel : decode zY_170.2.1 1 = .ok (.iconst 1, 1)) (by decide +kernel)
theorem zf_zm_170_2 (env : List (Nat × Nat)) : zI9 170 zY_170 zm_170 env (2, 30, 6, 0, 0) 5 := zi_icmp_lt (off := 10) (t := 12) (by decide +kernel : decode zY_170.2.1 2 = .ok (.if_icmp .lt 10, 3)) (by decide) (by decide +kernel)
theorem zf_zm_170_3 (env : List (Nat × Nat)) : zI9 170 zY_170 zm_170 env (5, 63, 1, 0, 0) 6 := zi_iload_n (by decide +kernel : decode zY_170.2.1 5 = .ok (.iload_n 1, 1)) rfl
theorem zf_zm_170_4 (env : List (Nat × Nat)) : zI9 170 zY_170 zm_170 env (6, 2, 1000, 0, 0) 9 := zi_sipush (by decide +kernel : decode zY_170.2.1 6 = .ok (.sipush 1000, 3)) (by decide +kernel)
theorem zf_zm_170_5 (env : List (Nat × Nat)) : zI9 170 zY_170 zm_170 env (9, 27, 7, 0, 0) 12 := zi_icmp_le (off := 11) (t := 20) (by decide +kernel : decode zY_170.2.1 9 = .ok (.if_icmp .le 11, 3)) (by decide) (by decide +kernel)
theorem zf_zm_170_6 (env : List (Nat × Nat)) : zR9 170 env (12, 39, 1, 0, 0) := zi_throw (names := znames) (ik := 56) (ic := 58) zUS_ok zfit_1 znf (zw_T zwd_127) (zw_T zwd_128) (zat_of zrest_1 zwd_129) (zgd_of zrest_1) rfl (by decide) (by decide) (by decide +kernel : decode (zYf 170).2.1 12 = .ok (.new 56, 3)) (by decide +kernel : decode (zYf 170).2.1 15 = .ok (.dup, 1)) (by decide +kernel : decode (zYf 170).2.1 16 = .ok (.invokespecial 58, 3)) (by decide +kernel : decode (zYf 170).2.1 19 = .ok (.athrow, 1))
theorem zf_zm_170_7 (env : List (Nat × Nat)) : zI9 170 zY_170 zm_170 env (20, 0, 0, 0, 0) 21 := zi_aload_n (by decide +kernel : decode zY_170.2.1 20 = .ok (.aload_n 0, 1)) rfl
theorem zf_zm_170_8 (env : List (Nat × Nat)) : zI9 170 zY_170 zm_170 env (21, 1, 0, 6, 0) 24 := zi_getf (i := 213) (N := 8) (C := "TransportPair") (ref := "TransportPair") (T := zF_0) (by decide +kernel : decode zY_170.2.1 21 = .ok (.getfield 213, 3)) rfl zuw_0 (by decide) (zw_T zwd_780) rfl
theorem zf_zm_170_9 (env : List (Nat × Nat)) : zI9 170 zY_170 zm_170 env (24, 2, 200000, 0, 0) 26 := zi_ldc (v := 200000) (by decide +kernel : decode zY_170.2.1 24 = .ok (.ldc 90, 2)) (by decide +kernel) (zw_T zwd_134)
theorem zf_zm_170_10 (env : List (Nat × Nat)) : zI9 170 zY_170 zm_170 env (26, 63, 1, 0, 0) 27 := zi_iload_n (by decide +kernel : decode zY_170.2.1 26 = .ok (.iload_n 1, 1)) rfl
theorem zf_zm_170_11 (env : List (Nat × Nat)) : zI9 170 zY_170 zm_170 env (27, 37, 0, 0, 0) 28 := zi_isub (by decide +kernel : decode zY_170.2.1 27 = .ok (.isub, 1))
theorem zf_zm_170_12 (env : List (Nat × Nat)) : zI9 170 zY_170 zm_170 env (28, 27, 14, 0, 0) 31 := zi_icmp_le (off := 11) (t := 39) (by decide +kernel : decode zY_170.2.1 28 = .ok (.if_icmp .le 11, 3)) (by decide) (by decide +kernel)
theorem zf_zm_170_13 (env : List (Nat × Nat)) : zI9 170 zY_170 zm_170 env (31, 99, 0, 0, 0) 39 := zi_none
theorem zf_zm_170_14 (env : List (Nat × Nat)) : zI9 170 zY_170 zm_170 env (39, 2, 0, 0, 0) 40 := zi_iconst (by decide +kernel : decode zY_170.2.1 39 = .ok (.iconst 0, 1)) (by decide +kernel)
theorem zf_zm_170_15 (env : List (Nat × Nat)) : zI9 170 zY_170 zm_170 env (40, 10, 2, 0, 0) 41 := zi_istore_n (by decide +kernel : decode zY_170.2.1 40 = .ok (.istore_n 2, 1)) rfl (by decide)
theorem zf_zm_170_17 (env : List (Nat × Nat)) : zI9 170 zY_170 zm_170 env (200, 0, 0, 0, 0) 201 := zi_aload_n (by decide +kernel : decode zY_170.2.1 200 = .ok (.aload_n 0, 1)) rfl
theorem zf_zm_170_18 (env : List (Nat × Nat)) : zI9 170 zY_170 zm_170 env (201, 1, 0, 6, 0) 204 := zi_getf (i := 213) (N := 8) (C := "TransportPair") (ref := "TransportPair") (T := zF_0) (by decide +kernel : decode zY_170.2.1 201 = .ok (.getfield 213, 3)) rfl zuw_0 (by decide) (zw_T zwd_780) rfl
theorem zf_zm_170_19 (env : List (Nat × Nat)) : zR9 170 env (204, 11, 0, 0, 0) := zi_iret (by decide +kernel : decode (zYf 170).2.1 204 = .ok (.ireturn, 1)) rfl
set_option maxRecDepth 100000 in
theorem zc_zm_170 (env : List (Nat × Nat)) : zcode zX (z_QF zEX zcl zft) (z_zm zEX zX zWL zcl zft zYf) zYf zW zET zcl zft (zGv env) 170 zm_170 zm_170.1 := ⟨Or.inl ⟨1, zf_zm_170_0 env, zpc_c⟩,
  Or.inl ⟨2, zf_zm_170_1 env, zpc_c⟩,
  Or.inl ⟨5, zf_zm_170_2 env, zpc_c⟩,
  Or.inl ⟨6, zf_zm_170_3 env, zpc_c⟩,
  Or.inl ⟨9, zf_zm_170_4 env, zpc_c⟩,
  Or.inl ⟨12, zf_zm_170_5 env, zpc_c⟩,
  Or.inr (Or.inl (zf_zm_170_6 env)),
  Or.inl ⟨21, zf_zm_170_7 env, zpc_c⟩,
  Or.inl ⟨24, zf_zm_170_8 env, zpc_c⟩,
  Or.inl ⟨26, zf_zm_170_9 env, zpc_c⟩,
  Or.inl ⟨27, zf_zm_170_10 env, zpc_c⟩,
  Or.inl ⟨28, zf_zm_170_11 env, zpc_c⟩,
  Or.inl ⟨31, zf_zm_170_12 env, zpc_c⟩,
  Or.inl ⟨39, zf_zm_170_13 env, zpc_c⟩,
  Or.inl ⟨40, zf_zm_170_14 env, zpc_c⟩,
  Or.inl ⟨41, zf_zm_170_15 env, zpc_c⟩,
  Or.inr (Or.inr (Or.inr ⟨200, zf_zm_170_16 env, zpc_c⟩)),
  Or.inl ⟨201, zf_zm_170_17 env, zpc_c⟩,
  Or.inl ⟨204, zf_zm_170_18 env, zpc_c⟩,
  Or.inr (Or.inl (zf_zm_170_19 env)), trivial⟩
theorem zf_zm_171_0 (env : List (Nat × Nat)) : zI9 171 zY_171 zm_171 env (0, 0, 0, 0, 0) 1 := zi_aload_n (by decide +kernel : decode zY_171.2.1 0 = .ok (.aload_n 0, 1)) rfl
theorem zf_zm_171_1 (env : List (Nat × Nat)) : zI9 171 zY_171 zm_171 env (1, 63, 1, 0, 0) 2 := zi_iload_n (by decide +kernel : decode zY_171.2.1 1 = .ok (.iload_n 1, 1)) rfl
theorem zf_zm_171_2 (env : List (Nat × Nat)) : zI9 171 zY_171 zm_171 env (2, 2, 1, 0, 0) 3 := zi_iconst (by decide +kernel : decode zY_171.2.1 2 = .ok (.iconst 1, 1)) (by decide +kernel)
theorem zf_zm_171_3 (env : List (Nat × Nat)) : zI9 171 zY_171 zm_171 env (3, 30, 7, 0, 0) 6 := zi_icmp_lt (off := 10) (t := 13) (by decide +kernel : decode zY_171.2.1 3 = .ok (.if_icmp .lt 10, 3)) (by decide) (by decide +kernel)
theorem zf_zm_171_4 (env : List (Nat × Nat)) : zI9 171 zY_171 zm_171 env (6, 63, 1, 0, 0) 7 := zi_iload_n (by decide +kernel : decode zY_171.2.1 6 = .ok (.iload_n 1, 1)) rfl
theorem zf_zm_171_5 (env : List (Nat × Nat)) : zI9 171 zY_171 zm_171 env (7, 2, 1000, 0, 0) 10 := zi_sipush (by decide +kernel : decode zY_171.2.1 7 = .ok (.sipush 1000, 3)) (by decide +kernel)
theorem zf_zm_171_6 (env : List (Nat × Nat)) : zI9 171 zY_171 zm_171 env (10, 27, 9, 0, 0) 13 := zi_icmp_le (off := 7) (t := 17) (by decide +kernel : decode zY_171.2.1 10 = .ok (.if_icmp .le 7, 3)) (by decide) (by decide +kernel)
theorem zf_zm_171_7 (env : List (Nat × Nat)) : zI9 171 zY_171 zm_171 env (13, 2, 1, 0, 0) 14 := zi_iconst (by decide +kernel : decode zY_171.2.1 13 = .ok (.iconst 1, 1)) (by decide +kernel)
theorem zf_zm_171_8 (env : List (Nat × Nat)) : zI9 171 zY_171 zm_171 env (14, 7, 10, 0, 0) 17 := zi_goto (off := 4) (t := 18) (by decide +kernel : decode zY_171.2.1 14 = .ok (.goto 4, 3)) (by decide) (by decide +kernel)
theorem zf_zm_171_9 (env : List (Nat × Nat)) : zI9 171 zY_171 zm_171 env (17, 2, 0, 0, 0) 18 := zi_iconst (by decide +kernel : decode zY_171.2.1 17 = .ok (.iconst 0, 1)) (by decide +kernel)
theorem zf_zm_171_10 (env : List (Nat × Nat)) : zI9 171 zY_171 zm_171 env (18, 2, 1, 0, 0) 19 := zi_iconst (by decide +kernel : decode zY_171.2.1 18 = .ok (.iconst 1, 1)) (by decide +kernel)
theorem zf_zm_171_11 (env : List (Nat × Nat)) : zC9 171 zm_171 env (19, 66, 44, 195, 3) := zi_call (by decide +kernel) (zr_V (i := 102) (n := 2) (q := ("TransportPairModel", zF_1, 23)) zX_ok rfl (zgood_44) (by decide +kernel) (zw_T zwd_250) (zw_T zwd_259) (zw_T zwd_260) rfl (zw_T (zt_sel (y := ⟨"TransportPairModel","fails","(ZI)Z"⟩) (n := 23) 102 (by decide +kernel))) ⟨by decide +kernel, by decide +kernel, by decide +kernel⟩ rfl (by decide +kernel : decode (zYf 171).2.1 19 = .ok (.invokevirtual 102, 3)))
theorem zf_zm_171_12 (env : List (Nat × Nat)) : zI9 171 zY_171 zm_171 env (22, 6, 25, 0, 0) 25 := zi_if_ne (off := 27) (t := 49) (by decide +kernel : decode zY_171.2.1 22 = .ok (.ifCond .ne 27, 3)) (by decide) (by decide +kernel)
theorem zf_zm_171_13 (env : List (Nat × Nat)) : zI9 171 zY_171 zm_171 env (25, 0, 0, 0, 0) 26 := zi_aload_n (by decide +kernel : decode zY_171.2.1 25 = .ok (.aload_n 0, 1)) rfl
theorem zf_zm_171_14 (env : List (Nat × Nat)) : zI9 171 zY_171 zm_171 env (26, 0, 0, 0, 0) 27 := zi_aload_n (by decide +kernel : decode zY_171.2.1 26 = .ok (.aload_n 0, 1)) rfl
theorem zf_zm_171_15 (env : List (Nat × Nat)) : zI9 171 zY_171 zm_171 env (27, 1, 1, 8, 0) 30 := zi_getf (i := 203) (N := 23) (C := "TransportPairModel") (ref := "TransportPairModel") (T := zF_1) (by decide +kernel : decode zY_171.2.1 27 = .ok (.getfield 203, 3)) rfl zuw_1 (by decide) (zw_T zwd_291) rfl
theorem zf_zm_171_16 (env : List (Nat × Nat)) : zI9 171 zY_171 zm_171 env (30, 63, 1, 0, 0) 31 := zi_iload_n (by decide +kernel : decode zY_171.2.1 30 = .ok (.iload_n 1, 1)) rfl
theorem zf_zm_171_17 (env : List (Nat × Nat)) : zI9 171 zY_171 zm_171 env (31, 9, 0, 0, 0) 32 := zi_iadd (by decide +kernel : decode zY_171.2.1 31 = .ok (.iadd, 1))
theorem zf_zm_171_18 (env : List (Nat × Nat)) : zI9 171 zY_171 zm_171 env (32, 2, 200000, 0, 0) 34 := zi_ldc (v := 200000) (by decide +kernel : decode zY_171.2.1 32 = .ok (.ldc 132, 2)) (by decide +kernel) (zw_T zwd_263)
theorem zf_zm_171_19 (env : List (Nat × Nat)) : zI9 171 zY_171 zm_171 env (34, 27, 21, 0, 0) 37 := zi_icmp_le (off := 7) (t := 41) (by decide +kernel : decode zY_171.2.1 34 = .ok (.if_icmp .le 7, 3)) (by decide) (by decide +kernel)
theorem zf_zm_171_20 (env : List (Nat × Nat)) : zI9 171 zY_171 zm_171 env (37, 99, 0, 0, 0) 41 := zi_none
theorem zf_zm_171_21 (env : List (Nat × Nat)) : zI9 171 zY_171 zm_171 env (41, 2, 0, 0, 0) 42 := zi_iconst (by decide +kernel : decode zY_171.2.1 41 = .ok (.iconst 0, 1)) (by decide +kernel)
theorem zf_zm_171_22 (env : List (Nat × Nat)) : zI9 171 zY_171 zm_171 env (42, 2, 2, 0, 0) 43 := zi_iconst (by decide +kernel : decode zY_171.2.1 42 = .ok (.iconst 2, 1)) (by decide +kernel)
theorem zf_zm_171_23 (env : List (Nat × Nat)) : zC9 171 zm_171 env (43, 66, 44, 195, 3) := zi_call (by decide +kernel) (zr_V (i := 102) (n := 2) (q := ("TransportPairModel", zF_1, 23)) zX_ok rfl (zgood_44) (by decide +kernel) (zw_T zwd_250) (zw_T zwd_259) (zw_T zwd_260) rfl (zw_T (zt_sel (y := ⟨"TransportPairModel","fails","(ZI)Z"⟩) (n := 23) 102 (by decide +kernel))) ⟨by decide +kernel, by decide +kernel, by decide +kernel⟩ rfl (by decide +kernel : decode (zYf 171).2.1 43 = .ok (.invokevirtual 102, 3)))
theorem zf_zm_171_24 (env : List (Nat × Nat)) : zI9 171 zY_171 zm_171 env (46, 5, 27, 0, 0) 49 := zi_if_eq (off := 5) (t := 51) (by decide +kernel : decode zY_171.2.1 46 = .ok (.ifCond .eq 5, 3)) (by decide) (by decide +kernel)
theorem zf_zm_171_25 (env : List (Nat × Nat)) : zI9 171 zY_171 zm_171 env (49, 2, 0, 0, 0) 50 := zi_iconst (by decide +kernel : decode zY_171.2.1 49 = .ok (.iconst 0, 1)) (by decide +kernel)
theorem zf_zm_171_26 (env : List (Nat × Nat)) : zR9 171 env (50, 11, 0, 0, 0) := zi_iret (by decide +kernel : decode (zYf 171).2.1 50 = .ok (.ireturn, 1)) rfl
theorem zf_zm_171_27 (env : List (Nat × Nat)) : zI9 171 zY_171 zm_171 env (51, 2, 0, 0, 0) 52 := zi_iconst (by decide +kernel : decode zY_171.2.1 51 = .ok (.iconst 0, 1)) (by decide +kernel)
theorem zf_zm_171_28 (env : List (Nat × Nat)) : zI9 171 zY_171 zm_171 env (52, 10, 2, 0, 0) 53 := zi_istore_n (by decide +kernel : decode zY_171.2.1 52 = .ok (.istore_n 2, 1)) rfl (by decide)
theorem zf_zm_171_30 (env : List (Nat × Nat)) : zI9 171 zY_171 zm_171 env (68, 0, 0, 0, 0) 69 := zi_aload_n (by decide +kernel : decode zY_171.2.1 68 = .ok (.aload_n 0, 1)) rfl
theorem zf_zm_171_31 (env : List (Nat × Nat)) : zI9 171 zY_171 zm_171 env (69, 1, 1, 8, 0) 72 := zi_getf (i := 203) (N := 23) (C := "TransportPairModel") (ref := "TransportPairModel") (T := zF_1) (by decide +kernel : decode zY_171.2.1 69 = .ok (.getfield 203, 3)) rfl zuw_1 (by decide) (zw_T zwd_291) rfl
theorem zf_zm_171_32 (env : List (Nat × Nat)) : zR9 171 env (72, 11, 0, 0, 0) := zi_iret (by decide +kernel : decode (zYf 171).2.1 72 = .ok (.ireturn, 1)) rfl
set_option maxRecDepth 100000 in
theorem zc_zm_171 (env : List (Nat × Nat)) : zcode zX (z_QF zEX zcl zft) (z_zm zEX zX zWL zcl zft zYf) zYf zW zET zcl zft (zGv env) 171 zm_171 zm_171.1 := ⟨Or.inl ⟨1, zf_zm_171_0 env, zpc_c⟩,
  Or.inl ⟨2, zf_zm_171_1 env, zpc_c⟩,
  Or.inl ⟨3, zf_zm_171_2 env, zpc_c⟩,
  Or.inl ⟨6, zf_zm_171_3 env, zpc_c⟩,
  Or.inl ⟨7, zf_zm_171_4 env, zpc_c⟩,
  Or.inl ⟨10, zf_zm_171_5 env, zpc_c⟩,
  Or.inl ⟨13, zf_zm_171_6 env, zpc_c⟩,
  Or.inl ⟨14, zf_zm_171_7 env, zpc_c⟩,
  Or.inl ⟨17, zf_zm_171_8 env, zpc_c⟩,
  Or.inl ⟨18, zf_zm_171_9 env, zpc_c⟩,
  Or.inl ⟨19, zf_zm_171_10 env, zpc_c⟩,
  Or.inr (Or.inr (Or.inl ⟨zf_zm_171_11 env, zpc_c⟩)),
  Or.inl ⟨25, zf_zm_171_12 env, zpc_c⟩,
  Or.inl ⟨26, zf_zm_171_13 env, zpc_c⟩,
  Or.inl ⟨27, zf_zm_171_14 env, zpc_c⟩,
  Or.inl ⟨30, zf_zm_171_15 env, zpc_c⟩,
  Or.inl ⟨31, zf_zm_171_16 env, zpc_c⟩,
  Or.inl ⟨32, zf_zm_171_17 env, zpc_c⟩,
  Or.inl ⟨34, zf_zm_171_18 env, zpc_c⟩,
  Or.inl ⟨37, zf_zm_171_19 env, zpc_c⟩,
  Or.inl ⟨41, zf_zm_171_20 env, zpc_c⟩,
  Or.inl ⟨42, zf_zm_171_21 env, zpc_c⟩,
  Or.inl ⟨43, zf_zm_171_22 env, zpc_c⟩,
  Or.inr (Or.inr (Or.inl ⟨zf_zm_171_23 env, zpc_c⟩)),
  Or.inl ⟨49, zf_zm_171_24 env, zpc_c⟩,
  Or.inl ⟨50, zf_zm_171_25 env, zpc_c⟩,
  Or.inr (Or.inl (zf_zm_171_26 env)),
  Or.inl ⟨52, zf_zm_171_27 env, zpc_c⟩,
  Or.inl ⟨53, zf_zm_171_28 env, zpc_c⟩,
  Or.inr (Or.inr (Or.inr ⟨68, zf_zm_171_29 env, zpc_c⟩)),
  Or.inl ⟨69, zf_zm_171_30 env, zpc_c⟩,
  Or.inl ⟨72, zf_zm_171_31 env, zpc_c⟩,
  Or.inr (Or.inl (zf_zm_171_32 env)), trivial⟩
