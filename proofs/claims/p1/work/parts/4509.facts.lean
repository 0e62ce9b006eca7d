/-! FACTS (by program) -/
theorem zf_zm_152_0 (env : List (Nat × Nat)) : zI9 152 zY_152 zm_152 env (0, 0, 4, 0, 0) 2 := zi_aload (by decide +kernel : decode zY_152.2.1 0 = .ok (.aload 4, 2))
theorem zf_zm_152_1 (env : List (Nat × Nat)) : zI9 152 zY_152 zm_152 env (2, 2, 0, 0, 0) 3 := zi_iconst (by decide +kernel : decode zY_152.2.1 2 = .ok (.iconst 0, 1)) (by decide +kernel)
theorem zf_zm_152_2 (env : List (Nat × Nat)) : zI9 152 zY_152 zm_152 env (3, 0, 0, 0, 0) 4 := zi_aload_n (by decide +kernel : decode zY_152.2.1 3 = .ok (.aload_n 0, 1)) rfl
theorem zf_zm_152_3 (env : List (Nat × Nat)) : zI9 152 zY_152 zm_152 env (4, 63, 1, 0, 0) 5 := zi_iload_n (by decide +kernel : decode zY_152.2.1 4 = .ok (.iload_n 1, 1)) rfl
theorem zf_zm_152_4 (env : List (Nat × Nat)) : zI9 152 zY_152 zm_152 env (5, 63, 2, 0, 0) 6 := zi_iload_n (by decide +kernel : decode zY_152.2.1 5 = .ok (.iload_n 2, 1)) rfl
theorem zf_zm_152_5 (env : List (Nat × Nat)) : zI9 152 zY_152 zm_152 env (6, 63, 3, 0, 0) 7 := zi_iload_n (by decide +kernel : decode zY_152.2.1 6 = .ok (.iload_n 3, 1)) rfl
theorem zf_zm_152_6 (env : List (Nat × Nat)) : zC9 152 zm_152 env (7, 3, 18, 260, 2) := zi_callT (by decide +kernel) (zr_V (i := 51) (n := 3) (q := ("TransportPair", zF_0, 8)) zX_ok rfl (zgood_18) (by decide +kernel) (zw_T zwd_124) (zw_T zwd_726) (zw_T zwd_727) rfl (zw_T zwd_728) ⟨by decide +kernel, by decide +kernel, by decide +kernel⟩ rfl (by decide +kernel : decode (zYf 152).2.1 7 = .ok (.invokevirtual 51, 3))) (zt_V (i := 51) (n := 3) (q := ("TransportPair", zF_0, 8)) zX_ok zeo_zm_152 zNC_ok rfl (zgood_18) (by decide +kernel) (zw_T zwd_124) (zw_T zwd_726) (zw_T zwd_727) rfl (zw_T zwd_728) ⟨by decide +kernel, by decide +kernel, by decide +kernel⟩ rfl (by decide +kernel : decode (zYf 152).2.1 7 = .ok (.invokevirtual 51, 3)))
theorem zf_zm_152_7 (env : List (Nat × Nat)) : zI9 152 zY_152 zm_152 env (10, 5, 9, 0, 0) 13 := zi_if_eq (off := 7) (t := 17) (by decide +kernel : decode zY_152.2.1 10 = .ok (.ifCond .eq 7, 3)) (by decide) (by decide +kernel)
theorem zf_zm_152_8 (env : List (Nat × Nat)) : zI9 152 zY_152 zm_152 env (13, 99, 0, 0, 0) 17 := zi_none
theorem zf_zm_152_9 (env : List (Nat × Nat)) : zI9 152 zY_152 zm_152 env (17, 15, 0, 0, 0) 18 := zi_lconst (by decide +kernel : decode zY_152.2.1 17 = .ok (.lconst 0, 1)) (by decide +kernel)
theorem zf_zm_152_10 (env : List (Nat × Nat)) : zI9 152 zY_152 zm_152 env (18, 18, 0, 0, 0) 19 := zi_last (by decide +kernel : decode zY_152.2.1 18 = .ok (.lastore, 1))
theorem zf_zm_152_11 (env : List (Nat × Nat)) : zI9 152 zY_152 zm_152 env (19, 7, 15, 0, 0) 22 := zi_goto (off := 7) (t := 26) (by decide +kernel : decode zY_152.2.1 19 = .ok (.goto 7, 3)) (by decide) (by decide +kernel)
theorem zf_zm_152_12 (env : List (Nat × Nat)) : zI9 152 zY_152 zm_152 env (22, 65, 5, 0, 0) 24 := zi_astore (by decide +kernel : decode zY_152.2.1 22 = .ok (.astore 5, 2)) (by decide)
theorem zf_zm_152_13 (env : List (Nat × Nat)) : zI9 152 zY_152 zm_152 env (24, 2, 1, 0, 0) 25 := zi_iconst (by decide +kernel : decode zY_152.2.1 24 = .ok (.iconst 1, 1)) (by decide +kernel)
theorem zf_zm_152_14 (env : List (Nat × Nat)) : zR9 152 env (25, 11, 0, 0, 0) := zi_iret (by decide +kernel : decode (zYf 152).2.1 25 = .ok (.ireturn, 1)) rfl
theorem zf_zm_152_15 (env : List (Nat × Nat)) : zI9 152 zY_152 zm_152 env (26, 2, 0, 0, 0) 27 := zi_iconst (by decide +kernel : decode zY_152.2.1 26 = .ok (.iconst 0, 1)) (by decide +kernel)
theorem zf_zm_152_16 (env : List (Nat × Nat)) : zR9 152 env (27, 11, 0, 0, 0) := zi_iret (by decide +kernel : decode (zYf 152).2.1 27 = .ok (.ireturn, 1)) rfl
set_option maxRecDepth 100000 in
theorem zc_zm_152 (env : List (Nat × Nat)) : zcode zX (z_QF zEX zcl zft) (z_zm zEX zX zWL zcl zft zYf) zYf zW zET zcl zft (zGv env) 152 zm_152 zm_152.1 := ⟨Or.inl ⟨2, zf_zm_152_0 env, zpc_c⟩,
  Or.inl ⟨3, zf_zm_152_1 env, zpc_c⟩,
  Or.inl ⟨4, zf_zm_152_2 env, zpc_c⟩,
  Or.inl ⟨5, zf_zm_152_3 env, zpc_c⟩,
  Or.inl ⟨6, zf_zm_152_4 env, zpc_c⟩,
  Or.inl ⟨7, zf_zm_152_5 env, zpc_c⟩,
  Or.inr (Or.inr (Or.inl ⟨zf_zm_152_6 env, zpc_c⟩)),
  Or.inl ⟨13, zf_zm_152_7 env, zpc_c⟩,
  Or.inl ⟨17, zf_zm_152_8 env, zpc_c⟩,
  Or.inl ⟨18, zf_zm_152_9 env, zpc_c⟩,
  Or.inl ⟨19, zf_zm_152_10 env, zpc_c⟩,
  Or.inl ⟨22, zf_zm_152_11 env, zpc_c⟩,
  Or.inl ⟨24, zf_zm_152_12 env, zpc_c⟩,
  Or.inl ⟨25, zf_zm_152_13 env, zpc_c⟩,
  Or.inr (Or.inl (zf_zm_152_14 env)),
  Or.inl ⟨27, zf_zm_152_15 env, zpc_c⟩,
  Or.inr (Or.inl (zf_zm_152_16 env)), trivial⟩
theorem zf_zm_153_0 (env : List (Nat × Nat)) : zI9 153 zY_153 zm_153 env (0, 0, 4, 0, 0) 2 := zi_aload (by decide +kernel : decode zY_153.2.1 0 = .ok (.aload 4, 2))
theorem zf_zm_153_1 (env : List (Nat × Nat)) : zI9 153 zY_153 zm_153 env (2, 2, 0, 0, 0) 3 := zi_iconst (by decide +kernel : decode zY_153.2.1 2 = .ok (.iconst 0, 1)) (by decide +kernel)
theorem zf_zm_153_2 (env : List (Nat × Nat)) : zI9 153 zY_153 zm_153 env (3, 0, 0, 0, 0) 4 := zi_aload_n (by decide +kernel : decode zY_153.2.1 3 = .ok (.aload_n 0, 1)) rfl
theorem zf_zm_153_3 (env : List (Nat × Nat)) : zI9 153 zY_153 zm_153 env (4, 63, 1, 0, 0) 5 := zi_iload_n (by decide +kernel : decode zY_153.2.1 4 = .ok (.iload_n 1, 1)) rfl
theorem zf_zm_153_4 (env : List (Nat × Nat)) : zI9 153 zY_153 zm_153 env (5, 63, 2, 0, 0) 6 := zi_iload_n (by decide +kernel : decode zY_153.2.1 5 = .ok (.iload_n 2, 1)) rfl
theorem zf_zm_153_5 (env : List (Nat × Nat)) : zI9 153 zY_153 zm_153 env (6, 63, 3, 0, 0) 7 := zi_iload_n (by decide +kernel : decode zY_153.2.1 6 = .ok (.iload_n 3, 1)) rfl
theorem zf_zm_153_6 (env : List (Nat × Nat)) : zC9 153 zm_153 env (7, 3, 19, 261, 2) := zi_callT (by decide +kernel) (zr_V (i := 54) (n := 3) (q := ("TransportPair", zF_0, 8)) zX_ok rfl (zgood_19) (by decide +kernel) (zw_T zwd_124) (zw_T zwd_729) (zw_T zwd_730) rfl (zw_T zwd_731) ⟨by decide +kernel, by decide +kernel, by decide +kernel⟩ rfl (by decide +kernel : decode (zYf 153).2.1 7 = .ok (.invokevirtual 54, 3))) (zt_V (i := 54) (n := 3) (q := ("TransportPair", zF_0, 8)) zX_ok zeo_zm_153 zNC_ok rfl (zgood_19) (by decide +kernel) (zw_T zwd_124) (zw_T zwd_729) (zw_T zwd_730) rfl (zw_T zwd_731) ⟨by decide +kernel, by decide +kernel, by decide +kernel⟩ rfl (by decide +kernel : decode (zYf 153).2.1 7 = .ok (.invokevirtual 54, 3)))
theorem zf_zm_153_7 (env : List (Nat × Nat)) : zI9 153 zY_153 zm_153 env (10, 16, 0, 0, 0) 11 := zi_i2l (by decide +kernel : decode zY_153.2.1 10 = .ok (.i2l, 1))
theorem zf_zm_153_8 (env : List (Nat × Nat)) : zI9 153 zY_153 zm_153 env (11, 18, 0, 0, 0) 12 := zi_last (by decide +kernel : decode zY_153.2.1 11 = .ok (.lastore, 1))
theorem zf_zm_153_9 (env : List (Nat × Nat)) : zI9 153 zY_153 zm_153 env (12, 7, 13, 0, 0) 15 := zi_goto (off := 7) (t := 19) (by decide +kernel : decode zY_153.2.1 12 = .ok (.goto 7, 3)) (by decide) (by decide +kernel)
theorem zf_zm_153_10 (env : List (Nat × Nat)) : zI9 153 zY_153 zm_153 env (15, 65, 5, 0, 0) 17 := zi_astore (by decide +kernel : decode zY_153.2.1 15 = .ok (.astore 5, 2)) (by decide)
theorem zf_zm_153_11 (env : List (Nat × Nat)) : zI9 153 zY_153 zm_153 env (17, 2, 1, 0, 0) 18 := zi_iconst (by decide +kernel : decode zY_153.2.1 17 = .ok (.iconst 1, 1)) (by decide +kernel)
theorem zf_zm_153_12 (env : List (Nat × Nat)) : zR9 153 env (18, 11, 0, 0, 0) := zi_iret (by decide +kernel : decode (zYf 153).2.1 18 = .ok (.ireturn, 1)) rfl
theorem zf_zm_153_13 (env : List (Nat × Nat)) : zI9 153 zY_153 zm_153 env (19, 2, 0, 0, 0) 20 := zi_iconst (by decide +kernel : decode zY_153.2.1 19 = .ok (.iconst 0, 1)) (by decide +kernel)
theorem zf_zm_153_14 (env : List (Nat × Nat)) : zR9 153 env (20, 11, 0, 0, 0) := zi_iret (by decide +kernel : decode (zYf 153).2.1 20 = .ok (.ireturn, 1)) rfl
set_option maxRecDepth 100000 in
theorem zc_zm_153 (env : List (Nat × Nat)) : zcode zX (z_QF zEX zcl zft) (z_zm zEX zX zWL zcl zft zYf) zYf zW zET zcl zft (zGv env) 153 zm_153 zm_153.1 := ⟨Or.inl ⟨2, zf_zm_153_0 env, zpc_c⟩,
  Or.inl ⟨3, zf_zm_153_1 env, zpc_c⟩,
  Or.inl ⟨4, zf_zm_153_2 env, zpc_c⟩,
  Or.inl ⟨5, zf_zm_153_3 env, zpc_c⟩,
  Or.inl ⟨6, zf_zm_153_4 env, zpc_c⟩,
  Or.inl ⟨7, zf_zm_153_5 env, zpc_c⟩,
  Or.inr (Or.inr (Or.inl ⟨zf_zm_153_6 env, zpc_c⟩)),
  Or.inl ⟨11, zf_zm_153_7 env, zpc_c⟩,
  Or.inl ⟨12, zf_zm_153_8 env, zpc_c⟩,
  Or.inl ⟨15, zf_zm_153_9 env, zpc_c⟩,
  Or.inl ⟨17, zf_zm_153_10 env, zpc_c⟩,
  Or.inl ⟨18, zf_zm_153_11 env, zpc_c⟩,
  Or.inr (Or.inl (zf_zm_153_12 env)),
  Or.inl ⟨20, zf_zm_153_13 env, zpc_c⟩,
  Or.inr (Or.inl (zf_zm_153_14 env)), trivial⟩
theorem zf_zm_154_0 (env : List (Nat × Nat)) : zI9 154 zY_154 zm_154 env (0, 0, 2, 0, 0) 1 := zi_aload_n (by decide +kernel : decode zY_154.2.1 0 = .ok (.aload_n 2, 1)) rfl
theorem zf_zm_154_1 (env : List (Nat × Nat)) : zI9 154 zY_154 zm_154 env (1, 2, 0, 0, 0) 2 := zi_iconst (by decide +kernel : decode zY_154.2.1 1 = .ok (.iconst 0, 1)) (by decide +kernel)
theorem zf_zm_154_2 (env : List (Nat × Nat)) : zI9 154 zY_154 zm_154 env (2, 0, 0, 0, 0) 3 := zi_aload_n (by decide +kernel : decode zY_154.2.1 2 = .ok (.aload_n 0, 1)) rfl
theorem zf_zm_154_3 (env : List (Nat × Nat)) : zI9 154 zY_154 zm_154 env (3, 63, 1, 0, 0) 4 := zi_iload_n (by decide +kernel : decode zY_154.2.1 3 = .ok (.iload_n 1, 1)) rfl
theorem zf_zm_154_4 (env : List (Nat × Nat)) : zC9 154 zm_154 env (4, 3, 20, 133, 2) := zi_callT (by decide +kernel) (zr_V (i := 58) (n := 1) (q := ("TransportPair", zF_0, 8)) zX_ok rfl (zgood_20) (by decide +kernel) (zw_T zwd_124) (zw_T zwd_732) (zw_T zwd_733) rfl (zw_T zwd_734) ⟨by decide +kernel, by decide +kernel, by decide +kernel⟩ rfl (by decide +kernel : decode (zYf 154).2.1 4 = .ok (.invokevirtual 58, 3))) (zt_V (i := 58) (n := 1) (q := ("TransportPair", zF_0, 8)) zX_ok zeo_zm_154 zNC_ok rfl (zgood_20) (by decide +kernel) (zw_T zwd_124) (zw_T zwd_732) (zw_T zwd_733) rfl (zw_T zwd_734) ⟨by decide +kernel, by decide +kernel, by decide +kernel⟩ rfl (by decide +kernel : decode (zYf 154).2.1 4 = .ok (.invokevirtual 58, 3)))
theorem zf_zm_154_5 (env : List (Nat × Nat)) : zI9 154 zY_154 zm_154 env (7, 99, 0, 0, 0) 11 := zi_none
theorem zf_zm_154_6 (env : List (Nat × Nat)) : zI9 154 zY_154 zm_154 env (11, 65, 3, 0, 0) 12 := zi_astore_n (by decide +kernel : decode zY_154.2.1 11 = .ok (.astore_n 3, 1)) rfl (by decide)
theorem zf_zm_154_7 (env : List (Nat × Nat)) : zI9 154 zY_154 zm_154 env (12, 2, 1, 0, 0) 13 := zi_iconst (by decide +kernel : decode zY_154.2.1 12 = .ok (.iconst 1, 1)) (by decide +kernel)
theorem zf_zm_154_8 (env : List (Nat × Nat)) : zR9 154 env (13, 11, 0, 0, 0) := zi_iret (by decide +kernel : decode (zYf 154).2.1 13 = .ok (.ireturn, 1)) rfl
theorem zf_zm_154_9 (env : List (Nat × Nat)) : zI9 154 zY_154 zm_154 env (14, 99, 0, 0, 0) 0 := zi_none
set_option maxRecDepth 100000 in
theorem zc_zm_154 (env : List (Nat × Nat)) : zcode zX (z_QF zEX zcl zft) (z_zm zEX zX zWL zcl zft zYf) zYf zW zET zcl zft (zGv env) 154 zm_154 zm_154.1 := ⟨Or.inl ⟨1, zf_zm_154_0 env, zpc_c⟩,
  Or.inl ⟨2, zf_zm_154_1 env, zpc_c⟩,
  Or.inl ⟨3, zf_zm_154_2 env, zpc_c⟩,
  Or.inl ⟨4, zf_zm_154_3 env, zpc_c⟩,
  Or.inr (Or.inr (Or.inl ⟨zf_zm_154_4 env, zpc_c⟩)),
  Or.inl ⟨11, zf_zm_154_5 env, zpc_c⟩,
  Or.inl ⟨12, zf_zm_154_6 env, zpc_c⟩,
  Or.inl ⟨13, zf_zm_154_7 env, zpc_c⟩,
  Or.inr (Or.inl (zf_zm_154_8 env)),
  Or.inl ⟨0, zf_zm_154_9 env, zpc_n⟩, trivial⟩
theorem zf_zm_155_0 (env : List (Nat × Nat)) : zI9 155 zY_155 zm_155 env (0, 0, 3, 0, 0) 1 := zi_aload_n (by decide +kernel : decode zY_155.2.1 0 = .ok (.aload_n 3, 1)) rfl
theorem zf_zm_155_1 (env : List (Nat × Nat)) : zI9 155 zY_155 zm_155 env (1, 2, 0, 0, 0) 2 := zi_iconst (by decide +kernel : decode zY_155.2.1 1 = .ok (.iconst 0, 1)) (by decide +kernel)
theorem zf_zm_155_2 (env : List (Nat × Nat)) : zI9 155 zY_155 zm_155 env (2, 0, 0, 0, 0) 3 := zi_aload_n (by decide +kernel : decode zY_155.2.1 2 = .ok (.aload_n 0, 1)) rfl
theorem zf_zm_155_3 (env : List (Nat × Nat)) : zI9 155 zY_155 zm_155 env (3, 63, 1, 0, 0) 4 := zi_iload_n (by decide +kernel : decode zY_155.2.1 3 = .ok (.iload_n 1, 1)) rfl
theorem zf_zm_155_4 (env : List (Nat × Nat)) : zI9 155 zY_155 zm_155 env (4, 63, 2, 0, 0) 5 := zi_iload_n (by decide +kernel : decode zY_155.2.1 4 = .ok (.iload_n 2, 1)) rfl
theorem zf_zm_155_5 (env : List (Nat × Nat)) : zC9 155 zm_155 env (5, 3, 21, 195, 2) := zi_callT (by decide +kernel) (zr_V (i := 64) (n := 2) (q := ("TransportPair", zF_0, 8)) zX_ok rfl (zgood_21) (by decide +kernel) (zw_T zwd_124) (zw_T zwd_735) (zw_T zwd_736) rfl (zw_T zwd_737) ⟨by decide +kernel, by decide +kernel, by decide +kernel⟩ rfl (by decide +kernel : decode (zYf 155).2.1 5 = .ok (.invokevirtual 64, 3))) (zt_V (i := 64) (n := 2) (q := ("TransportPair", zF_0, 8)) zX_ok zeo_zm_155 zNC_ok rfl (zgood_21) (by decide +kernel) (zw_T zwd_124) (zw_T zwd_735) (zw_T zwd_736) rfl (zw_T zwd_737) ⟨by decide +kernel, by decide +kernel, by decide +kernel⟩ rfl (by decide +kernel : decode (zYf 155).2.1 5 = .ok (.invokevirtual 64, 3)))
theorem zf_zm_155_6 (env : List (Nat × Nat)) : zI9 155 zY_155 zm_155 env (8, 5, 8, 0, 0) 11 := zi_if_eq (off := 7) (t := 15) (by decide +kernel : decode zY_155.2.1 8 = .ok (.ifCond .eq 7, 3)) (by decide) (by decide +kernel)
theorem zf_zm_155_7 (env : List (Nat × Nat)) : zI9 155 zY_155 zm_155 env (11, 99, 0, 0, 0) 15 := zi_none
theorem zf_zm_155_8 (env : List (Nat × Nat)) : zI9 155 zY_155 zm_155 env (15, 15, 0, 0, 0) 16 := zi_lconst (by decide +kernel : decode zY_155.2.1 15 = .ok (.lconst 0, 1)) (by decide +kernel)
theorem zf_zm_155_9 (env : List (Nat × Nat)) : zI9 155 zY_155 zm_155 env (16, 18, 0, 0, 0) 17 := zi_last (by decide +kernel : decode zY_155.2.1 16 = .ok (.lastore, 1))
theorem zf_zm_155_10 (env : List (Nat × Nat)) : zI9 155 zY_155 zm_155 env (17, 7, 14, 0, 0) 20 := zi_goto (off := 7) (t := 24) (by decide +kernel : decode zY_155.2.1 17 = .ok (.goto 7, 3)) (by decide) (by decide +kernel)
theorem zf_zm_155_11 (env : List (Nat × Nat)) : zI9 155 zY_155 zm_155 env (20, 65, 4, 0, 0) 22 := zi_astore (by decide +kernel : decode zY_155.2.1 20 = .ok (.astore 4, 2)) (by decide)
theorem zf_zm_155_12 (env : List (Nat × Nat)) : zI9 155 zY_155 zm_155 env (22, 2, 1, 0, 0) 23 := zi_iconst (by decide +kernel : decode zY_155.2.1 22 = .ok (.iconst 1, 1)) (by decide +kernel)
theorem zf_zm_155_13 (env : List (Nat × Nat)) : zR9 155 env (23, 11, 0, 0, 0) := zi_iret (by decide +kernel : decode (zYf 155).2.1 23 = .ok (.ireturn, 1)) rfl
theorem zf_zm_155_14 (env : List (Nat × Nat)) : zI9 155 zY_155 zm_155 env (24, 2, 0, 0, 0) 25 := zi_iconst (by decide +kernel : decode zY_155.2.1 24 = .ok (.iconst 0, 1)) (by decide +kernel)
theorem zf_zm_155_15 (env : List (Nat × Nat)) : zR9 155 env (25, 11, 0, 0, 0) := zi_iret (by decide +kernel : decode (zYf 155).2.1 25 = .ok (.ireturn, 1)) rfl
set_option maxRecDepth 100000 in
theorem zc_zm_155 (env : List (Nat × Nat)) : zcode zX (z_QF zEX zcl zft) (z_zm zEX zX zWL zcl zft zYf) zYf zW zET zcl zft (zGv env) 155 zm_155 zm_155.1 := ⟨Or.inl ⟨1, zf_zm_155_0 env, zpc_c⟩,
  Or.inl ⟨2, zf_zm_155_1 env, zpc_c⟩,
  Or.inl ⟨3, zf_zm_155_2 env, zpc_c⟩,
  Or.inl ⟨4, zf_zm_155_3 env, zpc_c⟩,
  Or.inl ⟨5, zf_zm_155_4 env, zpc_c⟩,
  Or.inr (Or.inr (Or.inl ⟨zf_zm_155_5 env, zpc_c⟩)),
  Or.inl ⟨11, zf_zm_155_6 env, zpc_c⟩,
  Or.inl ⟨15, zf_zm_155_7 env, zpc_c⟩,
  Or.inl ⟨16, zf_zm_155_8 env, zpc_c⟩,
  Or.inl ⟨17, zf_zm_155_9 env, zpc_c⟩,
  Or.inl ⟨20, zf_zm_155_10 env, zpc_c⟩,
  Or.inl ⟨22, zf_zm_155_11 env, zpc_c⟩,
  Or.inl ⟨23, zf_zm_155_12 env, zpc_c⟩,
  Or.inr (Or.inl (zf_zm_155_13 env)),
  Or.inl ⟨25, zf_zm_155_14 env, zpc_c⟩,
  Or.inr (Or.inl (zf_zm_155_15 env)), trivial⟩
theorem zf_zm_156_0 (env : List (Nat × Nat)) : zI9 156 zY_156 zm_156 env (0, 0, 0, 0, 0) 1 := zi_aload_n (by decide +kernel : decode zY_156.2.1 0 = .ok (.aload_n 0, 1)) rfl
theorem zf_zm_156_1 (env : List (Nat × Nat)) : zI9 156 zY_156 zm_156 env (1, 63, 1, 0, 0) 2 := zi_iload_n (by decide +kernel : decode zY_156.2.1 1 = .ok (.iload_n 1, 1)) rfl
theorem zf_zm_156_2 (env : List (Nat × Nat)) : zC9 156 zm_156 env (2, 3, 22, 131, 2) := zi_callT (by decide +kernel) (zr_V (i := 67) (n := 1) (q := ("TransportPair", zF_0, 8)) zX_ok rfl (zgood_22) (by decide +kernel) (zw_T zwd_124) (zw_T zwd_738) (zw_T zwd_739) rfl (zw_T zwd_740) ⟨by decide +kernel, by decide +kernel, by decide +kernel⟩ rfl (by decide +kernel : decode (zYf 156).2.1 2 = .ok (.invokevirtual 67, 3))) (zt_V (i := 67) (n := 1) (q := ("TransportPair", zF_0, 8)) zX_ok zeo_zm_156 zNC_ok rfl (zgood_22) (by decide +kernel) (zw_T zwd_124) (zw_T zwd_738) (zw_T zwd_739) rfl (zw_T zwd_740) ⟨by decide +kernel, by decide +kernel, by decide +kernel⟩ rfl (by decide +kernel : decode (zYf 156).2.1 2 = .ok (.invokevirtual 67, 3)))
theorem zf_zm_156_3 (env : List (Nat × Nat)) : zI9 156 zY_156 zm_156 env (5, 99, 0, 0, 0) 8 := zi_none
theorem zf_zm_156_4 (env : List (Nat × Nat)) : zI9 156 zY_156 zm_156 env (8, 65, 2, 0, 0) 9 := zi_astore_n (by decide +kernel : decode zY_156.2.1 8 = .ok (.astore_n 2, 1)) rfl (by decide)
theorem zf_zm_156_5 (env : List (Nat × Nat)) : zI9 156 zY_156 zm_156 env (9, 2, 1, 0, 0) 10 := zi_iconst (by decide +kernel : decode zY_156.2.1 9 = .ok (.iconst 1, 1)) (by decide +kernel)
theorem zf_zm_156_6 (env : List (Nat × Nat)) : zR9 156 env (10, 11, 0, 0, 0) := zi_iret (by decide +kernel : decode (zYf 156).2.1 10 = .ok (.ireturn, 1)) rfl
theorem zf_zm_156_7 (env : List (Nat × Nat)) : zI9 156 zY_156 zm_156 env (11, 99, 0, 0, 0) 0 := zi_none
set_option maxRecDepth 100000 in
theorem zc_zm_156 (env : List (Nat × Nat)) : zcode zX (z_QF zEX zcl zft) (z_zm zEX zX zWL zcl zft zYf) zYf zW zET zcl zft (zGv env) 156 zm_156 zm_156.1 := ⟨Or.inl ⟨1, zf_zm_156_0 env, zpc_c⟩,
  Or.inl ⟨2, zf_zm_156_1 env, zpc_c⟩,
  Or.inr (Or.inr (Or.inl ⟨zf_zm_156_2 env, zpc_c⟩)),
  Or.inl ⟨8, zf_zm_156_3 env, zpc_c⟩,
  Or.inl ⟨9, zf_zm_156_4 env, zpc_c⟩,
  Or.inl ⟨10, zf_zm_156_5 env, zpc_c⟩,
  Or.inr (Or.inl (zf_zm_156_6 env)),
  Or.inl ⟨0, zf_zm_156_7 env, zpc_n⟩, trivial⟩
theorem zf_zm_157_0 (env : List (Nat × Nat)) : zI9 157 zY_157 zm_157 env (0, 0, 3, 0, 0) 1 := zi_aload_n (by decide +kernel : decode zY_157.2.1 0 = .ok (.aload_n 3, 1)) rfl
theorem zf_zm_157_1 (env : List (Nat × Nat)) : zI9 157 zY_157 zm_157 env (1, 2, 0, 0, 0) 2 := zi_iconst (by decide +kernel : decode zY_157.2.1 1 = .ok (.iconst 0, 1)) (by decide +kernel)
theorem zf_zm_157_2 (env : List (Nat × Nat)) : zI9 157 zY_157 zm_157 env (2, 0, 0, 0, 0) 3 := zi_aload_n (by decide +kernel : decode zY_157.2.1 2 = .ok (.aload_n 0, 1)) rfl
theorem zf_zm_157_3 (env : List (Nat × Nat)) : zI9 157 zY_157 zm_157 env (3, 63, 1, 0, 0) 4 := zi_iload_n (by decide +kernel : decode zY_157.2.1 3 = .ok (.iload_n 1, 1)) rfl
theorem zf_zm_157_4 (env : List (Nat × Nat)) : zI9 157 zY_157 zm_157 env (4, 63, 2, 0, 0) 5 := zi_iload_n (by decide +kernel : decode zY_157.2.1 4 = .ok (.iload_n 2, 1)) rfl
theorem zf_zm_157_5 (env : List (Nat × Nat)) : zC9 157 zm_157 env (5, 3, 23, 198, 2) := zi_callT (by decide +kernel) (zr_V (i := 70) (n := 2) (q := ("TransportPair", zF_0, 8)) zX_ok rfl (zgood_23) (by decide +kernel) (zw_T zwd_124) (zw_T zwd_741) (zw_T zwd_742) rfl (zw_T zwd_743) ⟨by decide +kernel, by decide +kernel, by decide +kernel⟩ rfl (by decide +kernel : decode (zYf 157).2.1 5 = .ok (.invokevirtual 70, 3))) (zt_V (i := 70) (n := 2) (q := ("TransportPair", zF_0, 8)) zX_ok zeo_zm_157 zNC_ok rfl (zgood_23) (by decide +kernel) (zw_T zwd_124) (zw_T zwd_741) (zw_T zwd_742) rfl (zw_T zwd_743) ⟨by decide +kernel, by decide +kernel, by decide +kernel⟩ rfl (by decide +kernel : decode (zYf 157).2.1 5 = .ok (.invokevirtual 70, 3)))
theorem zf_zm_157_6 (env : List (Nat × Nat)) : zI9 157 zY_157 zm_157 env (8, 99, 0, 0, 0) 13 := zi_none
theorem zf_zm_157_7 (env : List (Nat × Nat)) : zI9 157 zY_157 zm_157 env (13, 65, 4, 0, 0) 15 := zi_astore (by decide +kernel : decode zY_157.2.1 13 = .ok (.astore 4, 2)) (by decide)
theorem zf_zm_157_8 (env : List (Nat × Nat)) : zI9 157 zY_157 zm_157 env (15, 2, 1, 0, 0) 16 := zi_iconst (by decide +kernel : decode zY_157.2.1 15 = .ok (.iconst 1, 1)) (by decide +kernel)
theorem zf_zm_157_9 (env : List (Nat × Nat)) : zR9 157 env (16, 11, 0, 0, 0) := zi_iret (by decide +kernel : decode (zYf 157).2.1 16 = .ok (.ireturn, 1)) rfl
theorem zf_zm_157_10 (env : List (Nat × Nat)) : zI9 157 zY_157 zm_157 env (17, 65, 4, 0, 0) 19 := zi_astore (by decide +kernel : decode zY_157.2.1 17 = .ok (.astore 4, 2)) (by decide)
theorem zf_zm_157_11 (env : List (Nat × Nat)) : zI9 157 zY_157 zm_157 env (19, 2, 2, 0, 0) 20 := zi_iconst (by decide +kernel : decode zY_157.2.1 19 = .ok (.iconst 2, 1)) (by decide +kernel)
theorem zf_zm_157_12 (env : List (Nat × Nat)) : zR9 157 env (20, 11, 0, 0, 0) := zi_iret (by decide +kernel : decode (zYf 157).2.1 20 = .ok (.ireturn, 1)) rfl
theorem zf_zm_157_13 (env : List (Nat × Nat)) : zI9 157 zY_157 zm_157 env (21, 99, 0, 0, 0) 0 := zi_none
set_option maxRecDepth 100000 in
theorem zc_zm_157 (env : List (Nat × Nat)) : zcode zX (z_QF zEX zcl zft) (z_zm zEX zX zWL zcl zft zYf) zYf zW zET zcl zft (zGv env) 157 zm_157 zm_157.1 := ⟨Or.inl ⟨1, zf_zm_157_0 env, zpc_c⟩,
  Or.inl ⟨2, zf_zm_157_1 env, zpc_c⟩,
  Or.inl ⟨3, zf_zm_157_2 env, zpc_c⟩,
  Or.inl ⟨4, zf_zm_157_3 env, zpc_c⟩,
  Or.inl ⟨5, zf_zm_157_4 env, zpc_c⟩,
  Or.inr (Or.inr (Or.inl ⟨zf_zm_157_5 env, zpc_c⟩)),
  Or.inl ⟨13, zf_zm_157_6 env, zpc_c⟩,
  Or.inl ⟨15, zf_zm_157_7 env, zpc_c⟩,
  Or.inl ⟨16, zf_zm_157_8 env, zpc_c⟩,
  Or.inr (Or.inl (zf_zm_157_9 env)),
  Or.inl ⟨19, zf_zm_157_10 env, zpc_c⟩,
  Or.inl ⟨20, zf_zm_157_11 env, zpc_c⟩,
  Or.inr (Or.inl (zf_zm_157_12 env)),
  Or.inl ⟨0, zf_zm_157_13 env, zpc_n⟩, trivial⟩
theorem zf_zm_158_0 (env : List (Nat × Nat)) : zI9 158 zY_158 zm_158 env (0, 0, 3, 0, 0) 1 := zi_aload_n (by decide +kernel : decode zY_158.2.1 0 = .ok (.aload_n 3, 1)) rfl
theorem zf_zm_158_1 (env : List (Nat × Nat)) : zI9 158 zY_158 zm_158 env (1, 2, 0, 0, 0) 2 := zi_iconst (by decide +kernel : decode zY_158.2.1 1 = .ok (.iconst 0, 1)) (by decide +kernel)
theorem zf_zm_158_2 (env : List (Nat × Nat)) : zI9 158 zY_158 zm_158 env (2, 0, 0, 0, 0) 3 := zi_aload_n (by decide +kernel : decode zY_158.2.1 2 = .ok (.aload_n 0, 1)) rfl
theorem zf_zm_158_3 (env : List (Nat × Nat)) : zI9 158 zY_158 zm_158 env (3, 63, 1, 0, 0) 4 := zi_iload_n (by decide +kernel : decode zY_158.2.1 3 = .ok (.iload_n 1, 1)) rfl
theorem zf_zm_158_4 (env : List (Nat × Nat)) : zI9 158 zY_158 zm_158 env (4, 63, 2, 0, 0) 5 := zi_iload_n (by decide +kernel : decode zY_158.2.1 4 = .ok (.iload_n 2, 1)) rfl
theorem zf_zm_158_5 (env : List (Nat × Nat)) : zC9 158 zm_158 env (5, 3, 24, 195, 2) := zi_callT (by decide +kernel) (zr_V (i := 73) (n := 2) (q := ("TransportPair", zF_0, 8)) zX_ok rfl (zgood_24) (by decide +kernel) (zw_T zwd_124) (zw_T zwd_744) (zw_T zwd_745) rfl (zw_T zwd_746) ⟨by decide +kernel, by decide +kernel, by decide +kernel⟩ rfl (by decide +kernel : decode (zYf 158).2.1 5 = .ok (.invokevirtual 73, 3))) (zt_V (i := 73) (n := 2) (q := ("TransportPair", zF_0, 8)) zX_ok zeo_zm_158 zNC_ok rfl (zgood_24) (by decide +kernel) (zw_T zwd_124) (zw_T zwd_744) (zw_T zwd_745) rfl (zw_T zwd_746) ⟨by decide +kernel, by decide +kernel, by decide +kernel⟩ rfl (by decide +kernel : decode (zYf 158).2.1 5 = .ok (.invokevirtual 73, 3)))
theorem zf_zm_158_6 (env : List (Nat × Nat)) : zI9 158 zY_158 zm_158 env (8, 99, 0, 0, 0) 13 := zi_none
theorem zf_zm_158_7 (env : List (Nat × Nat)) : zI9 158 zY_158 zm_158 env (13, 65, 4, 0, 0) 15 := zi_astore (by decide +kernel : decode zY_158.2.1 13 = .ok (.astore 4, 2)) (by decide)
theorem zf_zm_158_8 (env : List (Nat × Nat)) : zI9 158 zY_158 zm_158 env (15, 2, 1, 0, 0) 16 := zi_iconst (by decide +kernel : decode zY_158.2.1 15 = .ok (.iconst 1, 1)) (by decide +kernel)
theorem zf_zm_158_9 (env : List (Nat × Nat)) : zR9 158 env (16, 11, 0, 0, 0) := zi_iret (by decide +kernel : decode (zYf 158).2.1 16 = .ok (.ireturn, 1)) rfl
theorem zf_zm_158_10 (env : List (Nat × Nat)) : zI9 158 zY_158 zm_158 env (17, 65, 4, 0, 0) 19 := zi_astore (by decide +kernel : decode zY_158.2.1 17 = .ok (.astore 4, 2)) (by decide)
theorem zf_zm_158_11 (env : List (Nat × Nat)) : zI9 158 zY_158 zm_158 env (19, 2, 2, 0, 0) 20 := zi_iconst (by decide +kernel : decode zY_158.2.1 19 = .ok (.iconst 2, 1)) (by decide +kernel)
theorem zf_zm_158_12 (env : List (Nat × Nat)) : zR9 158 env (20, 11, 0, 0, 0) := zi_iret (by decide +kernel : decode (zYf 158).2.1 20 = .ok (.ireturn, 1)) rfl
theorem zf_zm_158_13 (env : List (Nat × Nat)) : zI9 158 zY_158 zm_158 env (21, 99, 0, 0, 0) 0 := zi_none
set_option maxRecDepth 100000 in
theorem zc_zm_158 (env : List (Nat × Nat)) : zcode zX (z_QF zEX zcl zft) (z_zm zEX zX zWL zcl zft zYf) zYf zW zET zcl zft (zGv env) 158 zm_158 zm_158.1 := ⟨Or.inl ⟨1, zf_zm_158_0 env, zpc_c⟩,
  Or.inl ⟨2, zf_zm_158_1 env, zpc_c⟩,
  Or.inl ⟨3, zf_zm_158_2 env, zpc_c⟩,
  Or.inl ⟨4, zf_zm_158_3 env, zpc_c⟩,
  Or.inl ⟨5, zf_zm_158_4 env, zpc_c⟩,
  Or.inr (Or.inr (Or.inl ⟨zf_zm_158_5 env, zpc_c⟩)),
  Or.inl ⟨13, zf_zm_158_6 env, zpc_c⟩,
  Or.inl ⟨15, zf_zm_158_7 env, zpc_c⟩,
  Or.inl ⟨16, zf_zm_158_8 env, zpc_c⟩,
  Or.inr (Or.inl (zf_zm_158_9 env)),
  Or.inl ⟨19, zf_zm_158_10 env, zpc_c⟩,
  Or.inl ⟨20, zf_zm_158_11 env, zpc_c⟩,
  Or.inr (Or.inl (zf_zm_158_12 env)),
  Or.inl ⟨0, zf_zm_158_13 env, zpc_n⟩, trivial⟩
theorem zf_zm_159_0 (env : List (Nat × Nat)) : zI9 159 zY_159 zm_159 env (0, 0, 3, 0, 0) 1 := zi_aload_n (by decide +kernel : decode zY_159.2.1 0 = .ok (.aload_n 3, 1)) rfl
theorem zf_zm_159_1 (env : List (Nat × Nat)) : zI9 159 zY_159 zm_159 env (1, 2, 0, 0, 0) 2 := zi_iconst (by decide +kernel : decode zY_159.2.1 1 = .ok (.iconst 0, 1)) (by decide +kernel)
theorem zf_zm_159_2 (env : List (Nat × Nat)) : zI9 159 zY_159 zm_159 env (2, 0, 0, 0, 0) 3 := zi_aload_n (by decide +kernel : decode zY_159.2.1 2 = .ok (.aload_n 0, 1)) rfl
theorem zf_zm_159_3 (env : List (Nat × Nat)) : zI9 159 zY_159 zm_159 env (3, 63, 1, 0, 0) 4 := zi_iload_n (by decide +kernel : decode zY_159.2.1 3 = .ok (.iload_n 1, 1)) rfl
theorem zf_zm_159_4 (env : List (Nat × Nat)) : zI9 159 zY_159 zm_159 env (4, 63, 2, 0, 0) 5 := zi_iload_n (by decide +kernel : decode zY_159.2.1 4 = .ok (.iload_n 2, 1)) rfl
theorem zf_zm_159_5 (env : List (Nat × Nat)) : zC9 159 zm_159 env (5, 3, 25, 197, 2) := zi_callT (by decide +kernel) (zr_V (i := 76) (n := 2) (q := ("TransportPair", zF_0, 8)) zX_ok rfl (zgood_25) (by decide +kernel) (zw_T zwd_124) (zw_T zwd_747) (zw_T zwd_748) rfl (zw_T zwd_749) ⟨by decide +kernel, by decide +kernel, by decide +kernel⟩ rfl (by decide +kernel : decode (zYf 159).2.1 5 = .ok (.invokevirtual 76, 3))) (zt_V (i := 76) (n := 2) (q := ("TransportPair", zF_0, 8)) zX_ok zeo_zm_159 zNC_ok rfl (zgood_25) (by decide +kernel) (zw_T zwd_124) (zw_T zwd_747) (zw_T zwd_748) rfl (zw_T zwd_749) ⟨by decide +kernel, by decide +kernel, by decide +kernel⟩ rfl (by decide +kernel : decode (zYf 159).2.1 5 = .ok (.invokevirtual 76, 3)))
theorem zf_zm_159_6 (env : List (Nat × Nat)) : zI9 159 zY_159 zm_159 env (8, 99, 0, 0, 0) 13 := zi_none
theorem zf_zm_159_7 (env : List (Nat × Nat)) : zI9 159 zY_159 zm_159 env (13, 65, 4, 0, 0) 15 := zi_astore (by decide +kernel : decode zY_159.2.1 13 = .ok (.astore 4, 2)) (by decide)
theorem zf_zm_159_8 (env : List (Nat × Nat)) : zI9 159 zY_159 zm_159 env (15, 2, 1, 0, 0) 16 := zi_iconst (by decide +kernel : decode zY_159.2.1 15 = .ok (.iconst 1, 1)) (by decide +kernel)
theorem zf_zm_159_9 (env : List (Nat × Nat)) : zR9 159 env (16, 11, 0, 0, 0) := zi_iret (by decide +kernel : decode (zYf 159).2.1 16 = .ok (.ireturn, 1)) rfl
theorem zf_zm_159_10 (env : List (Nat × Nat)) : zI9 159 zY_159 zm_159 env (17, 65, 4, 0, 0) 19 := zi_astore (by decide +kernel : decode zY_159.2.1 17 = .ok (.astore 4, 2)) (by decide)
theorem zf_zm_159_11 (env : List (Nat × Nat)) : zI9 159 zY_159 zm_159 env (19, 2, 2, 0, 0) 20 := zi_iconst (by decide +kernel : decode zY_159.2.1 19 = .ok (.iconst 2, 1)) (by decide +kernel)
theorem zf_zm_159_12 (env : List (Nat × Nat)) : zR9 159 env (20, 11, 0, 0, 0) := zi_iret (by decide +kernel : decode (zYf 159).2.1 20 = .ok (.ireturn, 1)) rfl
theorem zf_zm_159_13 (env : List (Nat × Nat)) : zI9 159 zY_159 zm_159 env (21, 99, 0, 0, 0) 0 := zi_none
set_option maxRecDepth 100000 in
theorem zc_zm_159 (env : List (Nat × Nat)) : zcode zX (z_QF zEX zcl zft) (z_zm zEX zX zWL zcl zft zYf) zYf zW zET zcl zft (zGv env) 159 zm_159 zm_159.1 := ⟨Or.inl ⟨1, zf_zm_159_0 env, zpc_c⟩,
  Or.inl ⟨2, zf_zm_159_1 env, zpc_c⟩,
  Or.inl ⟨3, zf_zm_159_2 env, zpc_c⟩,
  Or.inl ⟨4, zf_zm_159_3 env, zpc_c⟩,
  Or.inl ⟨5, zf_zm_159_4 env, zpc_c⟩,
  Or.inr (Or.inr (Or.inl ⟨zf_zm_159_5 env, zpc_c⟩)),
  Or.inl ⟨13, zf_zm_159_6 env, zpc_c⟩,
  Or.inl ⟨15, zf_zm_159_7 env, zpc_c⟩,
  Or.inl ⟨16, zf_zm_159_8 env, zpc_c⟩,
  Or.inr (Or.inl (zf_zm_159_9 env)),
  Or.inl ⟨19, zf_zm_159_10 env, zpc_c⟩,
  Or.inl ⟨20, zf_zm_159_11 env, zpc_c⟩,
  Or.inr (Or.inl (zf_zm_159_12 env)),
  Or.inl ⟨0, zf_zm_159_13 env, zpc_n⟩, trivial⟩
theorem zf_zm_160_0 (env : List (Nat × Nat)) : zI9 160 zY_160 zm_160 env (0, 0, 5, 0, 0) 2 := zi_aload (by decide +kernel : decode zY_160.2.1 0 = .ok (.aload 5, 2))
theorem zf_zm_160_1 (env : List (Nat × Nat)) : zI9 160 zY_160 zm_160 env (2, 2, 0, 0, 0) 3 := zi_iconst (by decide +kernel : decode zY_160.2.1 2 = .ok (.iconst 0, 1)) (by decide +kernel)
theorem zf_zm_160_2 (env : List (Nat × Nat)) : zI9 160 zY_160 zm_160 env (3, 0, 0, 0, 0) 4 := zi_aload_n (by decide +kernel : decode zY_160.2.1 3 = .ok (.aload_n 0, 1)) rfl
theorem zf_zm_160_3 (env : List (Nat × Nat)) : zI9 160 zY_160 zm_160 env (4, 63, 1, 0, 0) 5 := zi_iload_n (by decide +kernel : decode zY_160.2.1 4 = .ok (.iload_n 1, 1)) rfl
theorem zf_zm_160_4 (env : List (Nat × Nat)) : zI9 160 zY_160 zm_160 env (5, 63, 2, 0, 0) 6 := zi_iload_n (by decide +kernel : decode zY_160.2.1 5 = .ok (.iload_n 2, 1)) rfl
theorem zf_zm_160_5 (env : List (Nat × Nat)) : zI9 160 zY_160 zm_160 env (6, 63, 3, 0, 0) 7 := zi_iload_n (by decide +kernel : decode zY_160.2.1 6 = .ok (.iload_n 3, 1)) rfl
theorem zf_zm_160_6 (env : List (Nat × Nat)) : zI9 160 zY_160 zm_160 env (7, 63, 4, 0, 0) 9 := zi_iload (by decide +kernel : decode zY_160.2.1 7 = .ok (.iload 4, 2))
theorem zf_zm_160_7 (env : List (Nat × Nat)) : zC9 160 zm_160 env (9, 3, 26, 327, 2) := zi_callT (by decide +kernel) (zr_V (i := 79) (n := 4) (q := ("TransportPair", zF_0, 8)) zX_ok rfl (zgood_26) (by decide +kernel) (zw_T zwd_124) (zw_T zwd_750) (zw_T zwd_751) rfl (zw_T zwd_752) ⟨by decide +kernel, by decide +kernel, by decide +kernel⟩ rfl (by decide +kernel : decode (zYf 160).2.1 9 = .ok (.invokevirtual 79, 3))) (zt_V (i := 79) (n := 4) (q := ("TransportPair", zF_0, 8)) zX_ok zeo_zm_160 zNC_ok rfl (zgood_26) (by decide +kernel) (zw_T zwd_124) (zw_T zwd_750) (zw_T zwd_751) rfl (zw_T zwd_752) ⟨by decide +kernel, by decide +kernel, by decide +kernel⟩ rfl (by decide +kernel : decode (zYf 160).2.1 9 = .ok (.invokevirtual 79, 3)))
theorem zf_zm_160_8 (env : List (Nat × Nat)) : zI9 160 zY_160 zm_160 env (12, 99, 0, 0, 0) 17 := zi_none
theorem zf_zm_160_9 (env : List (Nat × Nat)) : zI9 160 zY_160 zm_160 env (17, 65, 6, 0, 0) 19 := zi_astore (by decide +kernel : decode zY_160.2.1 17 = .ok (.astore 6, 2)) (by decide)
theorem zf_zm_160_10 (env : List (Nat × Nat)) : zI9 160 zY_160 zm_160 env (19, 2, 1, 0, 0) 20 := zi_iconst (by decide +kernel : decode zY_160.2.1 19 = .ok (.iconst 1, 1)) (by decide +kernel)
theorem zf_zm_160_11 (env : List (Nat × Nat)) : zR9 160 env (20, 11, 0, 0, 0) := zi_iret (by decide +kernel : decode (zYf 160).2.1 20 = .ok (.ireturn, 1)) rfl
theorem zf_zm_160_12 (env : List (Nat × Nat)) : zI9 160 zY_160 zm_160 env (21, 65, 6, 0, 0) 23 := zi_astore (by decide +kernel : decode zY_160.2.1 21 = .ok (.astore 6, 2)) (by decide)
theorem zf_zm_160_13 (env : List (Nat × Nat)) : zI9 160 zY_160 zm_160 env (23, 2, 2, 0, 0) 24 := zi_iconst (by decide +kernel : decode zY_160.2.1 23 = .ok (.iconst 2, 1)) (by decide +kernel)
theorem zf_zm_160_14 (env : List (Nat × Nat)) : zR9 160 env (24, 11, 0, 0, 0) := zi_iret (by decide +kernel : decode (zYf 160).2.1 24 = .ok (.ireturn, 1)) rfl
theorem zf_zm_160_15 (env : List (Nat × Nat)) : zI9 160 zY_160 zm_160 env (25, 99, 0, 0, 0) 0 := zi_none
set_option maxRecDepth 100000 in
theorem zc_zm_160 (env : List (Nat × Nat)) : zcode zX (z_QF zEX zcl zft) (z_zm zEX zX zWL zcl zft zYf) zYf zW zET zcl zft (zGv env) 160 zm_160 zm_160.1 := ⟨Or.inl ⟨2, zf_zm_160_0 env, zpc_c⟩,
  Or.inl ⟨3, zf_zm_160_1 env, zpc_c⟩,
  Or.inl ⟨4, zf_zm_160_2 env, zpc_c⟩,
  Or.inl ⟨5, zf_zm_160_3 env, zpc_c⟩,
  Or.inl ⟨6, zf_zm_160_4 env, zpc_c⟩,
  Or.inl ⟨7, zf_zm_160_5 env, zpc_c⟩,
  Or.inl ⟨9, zf_zm_160_6 env, zpc_c⟩,
  Or.inr (Or.inr (Or.inl ⟨zf_zm_160_7 env, zpc_c⟩)),
  Or.inl ⟨17, zf_zm_160_8 env, zpc_c⟩,
  Or.inl ⟨19, zf_zm_160_9 env, zpc_c⟩,
  Or.inl ⟨20, zf_zm_160_10 env, zpc_c⟩,
  Or.inr (Or.inl (zf_zm_160_11 env)),
  Or.inl ⟨23, zf_zm_160_12 env, zpc_c⟩,
  Or.inl ⟨24, zf_zm_160_13 env, zpc_c⟩,
  Or.inr (Or.inl (zf_zm_160_14 env)),
  Or.inl ⟨0, zf_zm_160_15 env, zpc_n⟩, trivial⟩
theorem zf_zm_161_0 (env : List (Nat × Nat)) : zI9 161 zY_161 zm_161 env (0, 0, 0, 0, 0) 1 := zi_aload_n (by decide +kernel : decode zY_161.2.1 0 = .ok (.aload_n 0, 1)) rfl
theorem zf_zm_161_1 (env : List (Nat × Nat)) : zI9 161 zY_161 zm_161 env (1, 63, 1, 0, 0) 2 := zi_iload_n (by decide +kernel : decode zY_161.2.1 1 = .ok (.iload_n 1, 1)) rfl
theorem zf_zm_161_2 (env : List (Nat × Nat)) : zC9 161 zm_161 env (2, 3, 27, 130, 2) := zi_callT (by decide +kernel) (zr_V (i := 83) (n := 1) (q := ("TransportPair", zF_0, 8)) zX_ok rfl (zgood_27) (by decide +kernel) (zw_T zwd_124) (zw_T zwd_753) (zw_T zwd_754) rfl (zw_T zwd_755) ⟨by decide +kernel, by decide +kernel, by decide +kernel⟩ rfl (by decide +kernel : decode (zYf 161).2.1 2 = .ok (.invokevirtual 83, 3))) (zt_V (i := 83) (n := 1) (q := ("TransportPair", zF_0, 8)) zX_ok zeo_zm_161 zNC_ok rfl (zgood_27) (by decide +kernel) (zw_T zwd_124) (zw_T zwd_753) (zw_T zwd_754) rfl (zw_T zwd_755) ⟨by decide +kernel, by decide +kernel, by decide +kernel⟩ rfl (by decide +kernel : decode (zYf 161).2.1 2 = .ok (.invokevirtual 83, 3)))
theorem zf_zm_161_3 (env : List (Nat × Nat)) : zI9 161 zY_161 zm_161 env (5, 7, 7, 0, 0) 8 := zi_goto (off := 6) (t := 11) (by decide +kernel : decode zY_161.2.1 5 = .ok (.goto 6, 3)) (by decide) (by decide +kernel)
theorem zf_zm_161_4 (env : List (Nat × Nat)) : zI9 161 zY_161 zm_161 env (8, 65, 2, 0, 0) 9 := zi_astore_n (by decide +kernel : decode zY_161.2.1 8 = .ok (.astore_n 2, 1)) rfl (by decide)
theorem zf_zm_161_5 (env : List (Nat × Nat)) : zI9 161 zY_161 zm_161 env (9, 2, 1, 0, 0) 10 := zi_iconst (by decide +kernel : decode zY_161.2.1 9 = .ok (.iconst 1, 1)) (by decide +kernel)
theorem zf_zm_161_6 (env : List (Nat × Nat)) : zR9 161 env (10, 11, 0, 0, 0) := zi_iret (by decide +kernel : decode (zYf 161).2.1 10 = .ok (.ireturn, 1)) rfl
theorem zf_zm_161_7 (env : List (Nat × Nat)) : zI9 161 zY_161 zm_161 env (11, 2, 0, 0, 0) 12 := zi_iconst (by decide +kernel : decode zY_161.2.1 11 = .ok (.iconst 0, 1)) (by decide +kernel)
theorem zf_zm_161_8 (env : List (Nat × Nat)) : zR9 161 env (12, 11, 0, 0, 0) := zi_iret (by decide +kernel : decode (zYf 161).2.1 12 = .ok (.ireturn, 1)) rfl
set_option maxRecDepth 100000 in
theorem zc_zm_161 (env : List (Nat × Nat)) : zcode zX (z_QF zEX zcl zft) (z_zm zEX zX zWL zcl zft zYf) zYf zW zET zcl zft (zGv env) 161 zm_161 zm_161.1 := ⟨Or.inl ⟨1, zf_zm_161_0 env, zpc_c⟩,
  Or.inl ⟨2, zf_zm_161_1 env, zpc_c⟩,
  Or.inr (Or.inr (Or.inl ⟨zf_zm_161_2 env, zpc_c⟩)),
  Or.inl ⟨8, zf_zm_161_3 env, zpc_c⟩,
  Or.inl ⟨9, zf_zm_161_4 env, zpc_c⟩,
  Or.inl ⟨10, zf_zm_161_5 env, zpc_c⟩,
  Or.inr (Or.inl (zf_zm_161_6 env)),
  Or.inl ⟨12, zf_zm_161_7 env, zpc_c⟩,
  Or.inr (Or.inl (zf_zm_161_8 env)), trivial⟩
theorem zf_zm_162_0 (env : List (Nat × Nat)) : zI9 162 zY_162 zm_162 env (0, 0, 2, 0, 0) 1 := zi_aload_n (by decide +kernel : decode zY_162.2.1 0 = .ok (.aload_n 2, 1)) rfl
theorem zf_zm_162_1 (env : List (Nat × Nat)) : zI9 162 zY_162 zm_162 env (1, 2, 0, 0, 0) 2 := zi_iconst (by decide +kernel : decode zY_162.2.1 1 = .ok (.iconst 0, 1)) (by decide +kernel)
theorem zf_zm_162_2 (env : List (Nat × Nat)) : zI9 162 zY_162 zm_162 env (2, 0, 0, 0, 0) 3 := zi_aload_n (by decide +kernel : decode zY_162.2.1 2 = .ok (.aload_n 0, 1)) rfl
theorem zf_zm_162_3 (env : List (Nat × Nat)) : zI9 162 zY_162 zm_162 env (3, 63, 1, 0, 0) 4 := zi_iload_n (by decide +kernel : decode zY_162.2.1 3 = .ok (.iload_n 1, 1)) rfl
theorem zf_zm_162_4 (env : List (Nat × Nat)) : zC9 162 zm_162 env (4, 3, 170, 135, 2) := zi_callT (by decide +kernel) (zr_V (i := 86) (n := 1) (q := ("TransportPair", zF_0, 8)) zX_ok rfl (zgood_170) (by decide +kernel) (zw_T zwd_124) (zw_T zwd_756) (zw_T zwd_757) rfl (zw_T zwd_758) ⟨by decide +kernel, by decide +kernel, by decide +kernel⟩ rfl (by decide +kernel : decode (zYf 162).2.1 4 = .ok (.invokevirtual 86, 3))) (zt_V (i := 86) (n := 1) (q := ("TransportPair", zF_0, 8)) zX_ok zeo_zm_162 zNC_ok rfl (zgood_170) (by decide +kernel) (zw_T zwd_124) (zw_T zwd_756) (zw_T zwd_757) rfl (zw_T zwd_758) ⟨by decide +kernel, by decide +kernel, by decide +kernel⟩ rfl (by decide +kernel : decode (zYf 162).2.1 4 = .ok (.invokevirtual 86, 3)))
theorem zf_zm_162_5 (env : List (Nat × Nat)) : zI9 162 zY_162 zm_162 env (7, 16, 0, 0, 0) 8 := zi_i2l (by decide +kernel : decode zY_162.2.1 7 = .ok (.i2l, 1))
theorem zf_zm_162_6 (env : List (Nat × Nat)) : zI9 162 zY_162 zm_162 env (8, 18, 0, 0, 0) 9 := zi_last (by decide +kernel : decode zY_162.2.1 8 = .ok (.lastore, 1))
theorem zf_zm_162_7 (env : List (Nat × Nat)) : zI9 162 zY_162 zm_162 env (9, 7, 12, 0, 0) 12 := zi_goto (off := 9) (t := 18) (by decide +kernel : decode zY_162.2.1 9 = .ok (.goto 9, 3)) (by decide) (by decide +kernel)
theorem zf_zm_162_8 (env : List (Nat × Nat)) : zI9 162 zY_162 zm_162 env (12, 65, 3, 0, 0) 13 := zi_astore_n (by decide +kernel : decode zY_162.2.1 12 = .ok (.astore_n 3, 1)) rfl (by decide)
theorem zf_zm_162_9 (env : List (Nat × Nat)) : zI9 162 zY_162 zm_162 env (13, 2, 1, 0, 0) 14 := zi_iconst (by decide +kernel : decode zY_162.2.1 13 = .ok (.iconst 1, 1)) (by decide +kernel)
theorem zf_zm_162_10 (env : List (Nat × Nat)) : zR9 162 env (14, 11, 0, 0, 0) := zi_iret (by decide +kernel : decode (zYf 162).2.1 14 = .ok (.ireturn, 1)) rfl
theorem zf_zm_162_11 (env : List (Nat × Nat)) : zI9 162 zY_162 zm_162 env (15, 99, 0, 0, 0) 18 := zi_none
theorem zf_zm_162_12 (env : List (Nat × Nat)) : zI9 162 zY_162 zm_162 env (18, 2, 0, 0, 0) 19 := zi_iconst (by decide +kernel : decode zY_162.2.1 18 = .ok (.iconst 0, 1)) (by decide +kernel)
theorem zf_zm_162_13 (env : List (Nat × Nat)) : zR9 162 env (19, 11, 0, 0, 0) := zi_iret (by decide +kernel : decode (zYf 162).2.1 19 = .ok (.ireturn, 1)) rfl
set_option maxRecDepth 100000 in
theorem zc_zm_162 (env : List (Nat × Nat)) : zcode zX (z_QF zEX zcl zft) (z_zm zEX zX zWL zcl zft zYf) zYf zW zET zcl zft (zGv env) 162 zm_162 zm_162.1 := ⟨Or.inl ⟨1, zf_zm_162_0 env, zpc_c⟩,
  Or.inl ⟨2, zf_zm_162_1 env, zpc_c⟩,
  Or.inl ⟨3, zf_zm_162_2 env, zpc_c⟩,
  Or.inl ⟨4, zf_zm_162_3 env, zpc_c⟩,
  Or.inr (Or.inr (Or.inl ⟨zf_zm_162_4 env, zpc_c⟩)),
  Or.inl ⟨8, zf_zm_162_5 env, zpc_c⟩,
  Or.inl ⟨9, zf_zm_162_6 env, zpc_c⟩,
  Or.inl ⟨12, zf_zm_162_7 env, zpc_c⟩,
  Or.inl ⟨13, zf_zm_162_8 env, zpc_c⟩,
  Or.inl ⟨14, zf_zm_162_9 env, zpc_c⟩,
  Or.inr (Or.inl (zf_zm_162_10 env)),
  Or.inl ⟨18, zf_zm_162_11 env, zpc_c⟩,
  Or.inl ⟨19, zf_zm_162_12 env, zpc_c⟩,
  Or.inr (Or.inl (zf_zm_162_13 env)), trivial⟩
theorem zf_zm_163_0 (env : List (Nat × Nat)) : zI9 163 zY_163 zm_163 env (0, 0, 3, 0, 0) 1 := zi_aload_n (by decide +kernel : decode zY_163.2.1 0 = .ok (.aload_n 3, 1)) rfl
theorem zf_zm_163_1 (env : List (Nat × Nat)) : zI9 163 zY_163 zm_163 env (1, 2, 0, 0, 0) 2 := zi_iconst (by decide +kernel : decode zY_163.2.1 1 = .ok (.iconst 0, 1)) (by decide +kernel)
theorem zf_zm_163_2 (env : List (Nat × Nat)) : zI9 163 zY_163 zm_163 env (2, 0, 0, 0, 0) 3 := zi_aload_n (by decide +kernel : decode zY_163.2.1 2 = .ok (.aload_n 0, 1)) rfl
theorem zf_zm_163_3 (env : List (Nat × Nat)) : zI9 163 zY_163 zm_163 env (3, 63, 1, 0, 0) 4 := zi_iload_n (by decide +kernel : decode zY_163.2.1 3 = .ok (.iload_n 1, 1)) rfl
theorem zf_zm_163_4 (env : List (Nat × Nat)) : zI9 163 zY_163 zm_163 env (4, 63, 2, 0, 0) 5 := zi_iload_n (by decide +kernel : decode zY_163.2.1 4 = .ok (.iload_n 2, 1)) rfl
theorem zf_zm_163_5 (env : List (Nat × Nat)) : zC9 163 zm_163 env (5, 3, 28, 196, 2) := zi_callT (by decide +kernel) (zr_V (i := 89) (n := 2) (q := ("TransportPair", zF_0, 8)) zX_ok rfl (zgood_28) (by decide +kernel) (zw_T zwd_124) (zw_T zwd_759) (zw_T zwd_760) rfl (zw_T zwd_761) ⟨by decide +kernel, by decide +kernel, by decide +kernel⟩ rfl (by decide +kernel : decode (zYf 163).2.1 5 = .ok (.invokevirtual 89, 3))) (zt_V (i := 89) (n := 2) (q := ("TransportPair", zF_0, 8)) zX_ok zeo_zm_163 zNC_ok rfl (zgood_28) (by decide +kernel) (zw_T zwd_124) (zw_T zwd_759) (zw_T zwd_760) rfl (zw_T zwd_761) ⟨by decide +kernel, by decide +kernel, by decide +kernel⟩ rfl (by decide +kernel : decode (zYf 163).2.1 5 = .ok (.invokevirtual 89, 3)))
theorem zf_zm_163_6 (env : List (Nat × Nat)) : zI9 163 zY_163 zm_163 env (8, 16, 0, 0, 0) 9 := zi_i2l (by decide +kernel : decode zY_163.2.1 8 = .ok (.i2l, 1))
theorem zf_zm_163_7 (env : List (Nat × Nat)) : zI9 163 zY_163 zm_163 env (9, 18, 0, 0, 0) 10 := zi_last (by decide +kernel : decode zY_163.2.1 9 = .ok (.lastore, 1))
theorem zf_zm_163_8 (env : List (Nat × Nat)) : zI9 163 zY_163 zm_163 env (10, 7, 12, 0, 0) 13 := zi_goto (off := 7) (t := 17) (by decide +kernel : decode zY_163.2.1 10 = .ok (.goto 7, 3)) (by decide) (by decide +kernel)
theorem zf_zm_163_9 (env : List (Nat × Nat)) : zI9 163 zY_163 zm_163 env (13, 65, 4, 0, 0) 15 := zi_astore (by decide +kernel : decode zY_163.2.1 13 = .ok (.astore 4, 2)) (by decide)
theorem zf_zm_163_10 (env : List (Nat × Nat)) : zI9 163 zY_163 zm_163 env (15, 2, 1, 0, 0) 16 := zi_iconst (by decide +kernel : decode zY_163.2.1 15 = .ok (.iconst 1, 1)) (by decide +kernel)
theorem zf_zm_163_11 (env : List (Nat × Nat)) : zR9 163 env (16, 11, 0, 0, 0) := zi_iret (by decide +kernel : decode (zYf 163).2.1 16 = .ok (.ireturn, 1)) rfl
theorem zf_zm_163_12 (env : List (Nat × Nat)) : zI9 163 zY_163 zm_163 env (17, 2, 0, 0, 0) 18 := zi_iconst (by decide +kernel : decode zY_163.2.1 17 = .ok (.iconst 0, 1)) (by decide +kernel)
theorem zf_zm_163_13 (env : List (Nat × Nat)) : zR9 163 env (18, 11, 0, 0, 0) := zi_iret (by decide +kernel : decode (zYf 163).2.1 18 = .ok (.ireturn, 1)) rfl
set_option maxRecDepth 100000 in
theorem zc_zm_163 (env : List (Nat × Nat)) : zcode zX (z_QF zEX zcl zft) (z_zm zEX zX zWL zcl zft zYf) zYf zW zET zcl zft (zGv env) 163 zm_163 zm_163.1 := ⟨Or.inl ⟨1, zf_zm_163_0 env, zpc_c⟩,
  Or.inl ⟨2, zf_zm_163_1 env, zpc_c⟩,
  Or.inl ⟨3, zf_zm_163_2 env, zpc_c⟩,
  Or.inl ⟨4, zf_zm_163_3 env, zpc_c⟩,
  Or.inl ⟨5, zf_zm_163_4 env, zpc_c⟩,
  Or.inr (Or.inr (Or.inl ⟨zf_zm_163_5 env, zpc_c⟩)),
  Or.inl ⟨9, zf_zm_163_6 env, zpc_c⟩,
  Or.inl ⟨10, zf_zm_163_7 env, zpc_c⟩,
  Or.inl ⟨13, zf_zm_163_8 env, zpc_c⟩,
  Or.inl ⟨15, zf_zm_163_9 env, zpc_c⟩,
  Or.inl ⟨16, zf_zm_163_10 env, zpc_c⟩,
  Or.inr (Or.inl (zf_zm_163_11 env)),
  Or.inl ⟨18, zf_zm_163_12 env, zpc_c⟩,
  Or.inr (Or.inl (zf_zm_163_13 env)), trivial⟩
theorem zf_zm_164_0 (env : List (Nat × Nat)) : zI9 164 zY_164 zm_164 env (0, 0, 4, 0, 0) 2 := zi_aload (by decide +kernel : decode zY_164.2.1 0 = .ok (.aload 4, 2))
theorem zf_zm_164_1 (env : List (Nat × Nat)) : zI9 164 zY_164 zm_164 env (2, 2, 0, 0, 0) 3 := zi_iconst (by decide +kernel : decode zY_164.2.1 2 = .ok (.iconst 0, 1)) (by decide +kernel)
theorem zf_zm_164_2 (env : List (Nat × Nat)) : zI9 164 zY_164 zm_164 env (3, 0, 0, 0, 0) 4 := zi_aload_n (by decide +kernel : decode zY_164.2.1 3 = .ok (.aload_n 0, 1)) rfl
theorem zf_zm_164_3 (env : List (Nat × Nat)) : zI9 164 zY_164 zm_164 env (4, 63, 1, 0, 0) 5 := zi_iload_n (by decide +kernel : decode zY_164.2.1 4 = .ok (.iload_n 1, 1)) rfl
theorem zf_zm_164_4 (env : List (Nat × Nat)) : zI9 164 zY_164 zm_164 env (5, 63, 2, 0, 0) 6 := zi_iload_n (by decide +kernel : decode zY_164.2.1 5 = .ok (.iload_n 2, 1)) rfl
theorem zf_zm_164_5 (env : List (Nat × Nat)) : zI9 164 zY_164 zm_164 env (6, 63, 3, 0, 0) 7 := zi_iload_n (by decide +kernel : decode zY_164.2.1 6 = .ok (.iload_n 3, 1)) rfl
theorem zf_zm_164_6 (env : List (Nat × Nat)) : zC9 164 zm_164 env (7, 3, 29, 262, 2) := zi_callT (by decide +kernel) (zr_V (i := 92) (n := 3) (q := ("TransportPair", zF_0, 8)) zX_ok rfl (zgood_29) (by decide +kernel) (zw_T zwd_124) (zw_T zwd_762) (zw_T zwd_763) rfl (zw_T zwd_764) ⟨by decide +kernel, by decide +kernel, by decide +kernel⟩ rfl (by decide +kernel : decode (zYf 164).2.1 7 = .ok (.invokevirtual 92, 3))) (zt_V (i := 92) (n := 3) (q := ("TransportPair", zF_0, 8)) zX_ok zeo_zm_164 zNC_ok rfl (zgood_29) (by decide +kernel) (zw_T zwd_124) (zw_T zwd_762) (zw_T zwd_763) rfl (zw_T zwd_764) ⟨by decide +kernel, by decide +kernel, by decide +kernel⟩ rfl (by decide +kernel : decode (zYf 164).2.1 7 = .ok (.invokevirtual 92, 3)))
theorem zf_zm_164_7 (env : List (Nat × Nat)) : zI9 164 zY_164 zm_164 env (10, 99, 0, 0, 0) 15 := zi_none
theorem zf_zm_164_8 (env : List (Nat × Nat)) : zI9 164 zY_164 zm_164 env (15, 65, 5, 0, 0) 17 := zi_astore (by decide +kernel : decode zY_164.2.1 15 = .ok (.astore 5, 2)) (by decide)
theorem zf_zm_164_9 (env : List (Nat × Nat)) : zI9 164 zY_164 zm_164 env (17, 2, 1, 0, 0) 18 := zi_iconst (by decide +kernel : decode zY_164.2.1 17 = .ok (.iconst 1, 1)) (by decide +kernel)
theorem zf_zm_164_10 (env : List (Nat × Nat)) : zR9 164 env (18, 11, 0, 0, 0) := zi_iret (by decide +kernel : decode (zYf 164).2.1 18 = .ok (.ireturn, 1)) rfl
theorem zf_zm_164_11 (env : List (Nat × Nat)) : zI9 164 zY_164 zm_164 env (19, 65, 5, 0, 0) 21 := zi_astore (by decide +kernel : decode zY_164.2.1 19 = .ok (.astore 5, 2)) (by decide)
theorem zf_zm_164_12 (env : List (Nat × Nat)) : zI9 164 zY_164 zm_164 env (21, 2, 2, 0, 0) 22 := zi_iconst (by decide +kernel : decode zY_164.2.1 21 = .ok (.iconst 2, 1)) (by decide +kernel)
theorem zf_zm_164_13 (env : List (Nat × Nat)) : zR9 164 env (22, 11, 0, 0, 0) := zi_iret (by decide +kernel : decode (zYf 164).2.1 22 = .ok (.ireturn, 1)) rfl
theorem zf_zm_164_14 (env : List (Nat × Nat)) : zI9 164 zY_164 zm_164 env (23, 99, 0, 0, 0) 0 := zi_none
set_option maxRecDepth 100000 in
theorem zc_zm_164 (env : List (Nat × Nat)) : zcode zX (z_QF zEX zcl zft) (z_zm zEX zX zWL zcl zft zYf) zYf zW zET zcl zft (zGv env) 164 zm_164 zm_164.1 := ⟨Or.inl ⟨2, zf_zm_164_0 env, zpc_c⟩,
  Or.inl ⟨3, zf_zm_164_1 env, zpc_c⟩,
  Or.inl ⟨4, zf_zm_164_2 env, zpc_c⟩,
  Or.inl ⟨5, zf_zm_164_3 env, zpc_c⟩,
  Or.inl ⟨6, zf_zm_164_4 env, zpc_c⟩,
  Or.inl ⟨7, zf_zm_164_5 env, zpc_c⟩,
  Or.inr (Or.inr (Or.inl ⟨zf_zm_164_6 env, zpc_c⟩)),
  Or.inl ⟨15, zf_zm_164_7 env, zpc_c⟩,
  Or.inl ⟨17, zf_zm_164_8 env, zpc_c⟩,
  Or.inl ⟨18, zf_zm_164_9 env, zpc_c⟩,
  Or.inr (Or.inl (zf_zm_164_10 env)),
  Or.inl ⟨21, zf_zm_164_11 env, zpc_c⟩,
  Or.inl ⟨22, zf_zm_164_12 env, zpc_c⟩,
  Or.inr (Or.inl (zf_zm_164_13 env)),
  Or.inl ⟨0, zf_zm_164_14 env, zpc_n⟩, trivial⟩
theorem zf_zm_165_0 (env : List (Nat × Nat)) : zI9 165 zY_165 zm_165 env (0, 0, 3, 0, 0) 1 := zi_aload_n (by decide +kernel : decode zY_165.2.1 0 = .ok (.aload_n 3, 1)) rfl
theorem zf_zm_165_1 (env : List (Nat × Nat)) : zI9 165 zY_165 zm_165 env (1, 2, 0, 0, 0) 2 := zi_iconst (by decide +kernel : decode zY_165.2.1 1 = .ok (.iconst 0, 1)) (by decide +kernel)
theorem zf_zm_165_2 (env : List (Nat × Nat)) : zI9 165 zY_165 zm_165 env (2, 0, 0, 0, 0) 3 := zi_aload_n (by decide +kernel : decode zY_165.2.1 2 = .ok (.aload_n 0, 1)) rfl
theorem zf_zm_165_3 (env : List (Nat × Nat)) : zI9 165 zY_165 zm_165 env (3, 63, 1, 0, 0) 4 := zi_iload_n (by decide +kernel : decode zY_165.2.1 3 = .ok (.iload_n 1, 1)) rfl
theorem zf_zm_165_4 (env : List (Nat × Nat)) : zI9 165 zY_165 zm_165 env (4, 63, 2, 0, 0) 5 := zi_iload_n (by decide +kernel : decode zY_165.2.1 4 = .ok (.iload_n 2, 1)) rfl
theorem zf_zm_165_5 (env : List (Nat × Nat)) : zC9 165 zm_165 env (5, 3, 30, 195, 2) := zi_callT (by decide +kernel) (zr_V (i := 95) (n := 2) (q := ("TransportPair", zF_0, 8)) zX_ok rfl (zgood_30) (by decide +kernel) (zw_T zwd_124) (zw_T zwd_765) (zw_T zwd_766) rfl (zw_T zwd_767) ⟨by decide +kernel, by decide +kernel, by decide +kernel⟩ rfl (by decide +kernel : decode (zYf 165).2.1 5 = .ok (.invokevirtual 95, 3))) (zt_V (i := 95) (n := 2) (q := ("TransportPair", zF_0, 8)) zX_ok zeo_zm_165 zNC_ok rfl (zgood_30) (by decide +kernel) (zw_T zwd_124) (zw_T zwd_765) (zw_T zwd_766) rfl (zw_T zwd_767) ⟨by decide +kernel, by decide +kernel, by decide +kernel⟩ rfl (by decide +kernel : decode (zYf 165).2.1 5 = .ok (.invokevirtual 95, 3)))
theorem zf_zm_165_6 (env : List (Nat × Nat)) : zI9 165 zY_165 zm_165 env (8, 16, 0, 0, 0) 9 := zi_i2l (by decide +kernel : decode zY_165.2.1 8 = .ok (.i2l, 1))
theorem zf_zm_165_7 (env : List (Nat × Nat)) : zI9 165 zY_165 zm_165 env (9, 18, 0, 0, 0) 10 := zi_last (by decide +kernel : decode zY_165.2.1 9 = .ok (.lastore, 1))
theorem zf_zm_165_8 (env : List (Nat × Nat)) : zI9 165 zY_165 zm_165 env (10, 7, 12, 0, 0) 13 := zi_goto (off := 7) (t := 17) (by decide +kernel : decode zY_165.2.1 10 = .ok (.goto 7, 3)) (by decide) (by decide +kernel)
theorem zf_zm_165_9 (env : List (Nat × Nat)) : zI9 165 zY_165 zm_165 env (13, 65, 4, 0, 0) 15 := zi_astore (by decide +kernel : decode zY_165.2.1 13 = .ok (.astore 4, 2)) (by decide)
theorem zf_zm_165_10 (env : List (Nat × Nat)) : zI9 165 zY_165 zm_165 env (15, 2, 1, 0, 0) 16 := zi_iconst (by decide +kernel : decode zY_165.2.1 15 = .ok (.iconst 1, 1)) (by decide +kernel)
theorem zf_zm_165_11 (env : List (Nat × Nat)) : zR9 165 env (16, 11, 0, 0, 0) := zi_iret (by decide +kernel : decode (zYf 165).2.1 16 = .ok (.ireturn, 1)) rfl
theorem zf_zm_165_12 (env : List (Nat × Nat)) : zI9 165 zY_165 zm_165 env (17, 2, 0, 0, 0) 18 := zi_iconst (by decide +kernel : decode zY_165.2.1 17 = .ok (.iconst 0, 1)) (by decide +kernel)
theorem zf_zm_165_13 (env : List (Nat × Nat)) : zR9 165 env (18, 11, 0, 0, 0) := zi_iret (by decide +kernel : decode (zYf 165).2.1 18 = .ok (.ireturn, 1)) rfl
set_option maxRecDepth 100000 in
theorem zc_zm_165 (env : List (Nat × Nat)) : zcode zX (z_QF zEX zcl zft) (z_zm zEX zX zWL zcl zft zYf) zYf zW zET zcl zft (zGv env) 165 zm_165 zm_165.1 := ⟨Or.inl ⟨1, zf_zm_165_0 env, zpc_c⟩,
  Or.inl ⟨2, zf_zm_165_1 env, zpc_c⟩,
  Or.inl ⟨3, zf_zm_165_2 env, zpc_c⟩,
  Or.inl ⟨4, zf_zm_165_3 env, zpc_c⟩,
  Or.inl ⟨5, zf_zm_165_4 env, zpc_c⟩,
  Or.inr (Or.inr (Or.inl ⟨zf_zm_165_5 env, zpc_c⟩)),
  Or.inl ⟨9, zf_zm_165_6 env, zpc_c⟩,
  Or.inl ⟨10, zf_zm_165_7 env, zpc_c⟩,
  Or.inl ⟨13, zf_zm_165_8 env, zpc_c⟩,
  Or.inl ⟨15, zf_zm_165_9 env, zpc_c⟩,
  Or.inl ⟨16, zf_zm_165_10 env, zpc_c⟩,
  Or.inr (Or.inl (zf_zm_165_11 env)),
  Or.inl ⟨18, zf_zm_165_12 env, zpc_c⟩,
  Or.inr (Or.inl (zf_zm_165_13 env)), trivial⟩
theorem zf_zm_166_0 (env : List (Nat × Nat)) : zI9 166 zY_166 zm_166 env (0, 0, 3, 0, 0) 1 := zi_aload_n (by decide +kernel : decode zY_166.2.1 0 = .ok (.aload_n 3, 1)) rfl
theorem zf_zm_166_1 (env : List (Nat × Nat)) : zI9 166 zY_166 zm_166 env (1, 2, 0, 0, 0) 2 := zi_iconst (by decide +kernel : decode zY_166.2.1 1 = .ok (.iconst 0, 1)) (by decide +kernel)
theorem zf_zm_166_2 (env : List (Nat × Nat)) : zI9 166 zY_166 zm_166 env (2, 0, 0, 0, 0) 3 := zi_aload_n (by decide +kernel : decode zY_166.2.1 2 = .ok (.aload_n 0, 1)) rfl
theorem zf_zm_166_3 (env : List (Nat × Nat)) : zI9 166 zY_166 zm_166 env (3, 63, 1, 0, 0) 4 := zi_iload_n (by decide +kernel : decode zY_166.2.1 3 = .ok (.iload_n 1, 1)) rfl
theorem zf_zm_166_4 (env : List (Nat × Nat)) : zI9 166 zY_166 zm_166 env (4, 63, 2, 0, 0) 5 := zi_iload_n (by decide +kernel : decode zY_166.2.1 4 = .ok (.iload_n 2, 1)) rfl
theorem zf_zm_166_5 (env : List (Nat × Nat)) : zC9 166 zm_166 env (5, 3, 31, 195, 2) := zi_callT (by decide +kernel) (zr_V (i := 98) (n := 2) (q := ("TransportPair", zF_0, 8)) zX_ok rfl (zgood_31) (by decide +kernel) (zw_T zwd_124) (zw_T zwd_768) (zw_T zwd_769) rfl (zw_T zwd_770) ⟨by decide +kernel, by decide +kernel, by decide +kernel⟩ rfl (by decide +kernel : decode (zYf 166).2.1 5 = .ok (.invokevirtual 98, 3))) (zt_V (i := 98) (n := 2) (q := ("TransportPair", zF_0, 8)) zX_ok zeo_zm_166 zNC_ok rfl (zgood_31) (by decide +kernel) (zw_T zwd_124) (zw_T zwd_768) (zw_T zwd_769) rfl (zw_T zwd_770) ⟨by decide +kernel, by decide +kernel, by decide +kernel⟩ rfl (by decide +kernel : decode (zYf 166).2.1 5 = .ok (.invokevirtual 98, 3)))
theorem zf_zm_166_6 (env : List (Nat × Nat)) : zI9 166 zY_166 zm_166 env (8, 16, 0, 0, 0) 9 := zi_i2l (by decide +kernel : decode zY_166.2.1 8 = .ok (.i2l, 1))
theorem zf_zm_166_7 (env : List (Nat × Nat)) : zI9 166 zY_166 zm_166 env (9, 18, 0, 0, 0) 10 := zi_last (by decide +kernel : decode zY_166.2.1 9 = .ok (.lastore, 1))
theorem zf_zm_166_8 (env : List (Nat × Nat)) : zI9 166 zY_166 zm_166 env (10, 7, 12, 0, 0) 13 := zi_goto (off := 7) (t := 17) (by decide +kernel : decode zY_166.2.1 10 = .ok (.goto 7, 3)) (by decide) (by decide +kernel)
theorem zf_zm_166_9 (env : List (Nat × Nat)) : zI9 166 zY_166 zm_166 env (13, 65, 4, 0, 0) 15 := zi_astore (by decide +kernel : decode zY_166.2.1 13 = .ok (.astore 4, 2)) (by decide)
theorem zf_zm_166_10 (env : List (Nat × Nat)) : zI9 166 zY_166 zm_166 env (15, 2, 1, 0, 0) 16 := zi_iconst (by decide +kernel : decode zY_166.2.1 15 = .ok (.iconst 1, 1)) (by decide +kernel)
theorem zf_zm_166_11 (env : List (Nat × Nat)) : zR9 166 env (16, 11, 0, 0, 0) := zi_iret (by decide +kernel : decode (zYf 166).2.1 16 = .ok (.ireturn, 1)) rfl
theorem zf_zm_166_12 (env : List (Nat × Nat)) : zI9 166 zY_166 zm_166 env (17, 2, 0, 0, 0) 18 := zi_iconst (by decide +kernel : decode zY_166.2.1 17 = .ok (.iconst 0, 1)) (by decide +kernel)
theorem zf_zm_166_13 (env : List (Nat × Nat)) : zR9 166 env (18, 11, 0, 0, 0) := zi_iret (by decide +kernel : decode (zYf 166).2.1 18 = .ok (.ireturn, 1)) rfl
set_option maxRecDepth 100000 in
theorem zc_zm_166 (env : List (Nat × Nat)) : zcode zX (z_QF zEX zcl zft) (z_zm zEX zX zWL zcl zft zYf) zYf zW zET zcl zft (zGv env) 166 zm_166 zm_166.1 := ⟨Or.inl ⟨1, zf_zm_166_0 env, zpc_c⟩,
  Or.inl ⟨2, zf_zm_166_1 env, zpc_c⟩,
  Or.inl ⟨3, zf_zm_166_2 env, zpc_c⟩,
  Or.inl ⟨4, zf_zm_166_3 env, zpc_c⟩,
  Or.inl ⟨5, zf_zm_166_4 env, zpc_c⟩,
  Or.inr (Or.inr (Or.inl ⟨zf_zm_166_5 env, zpc_c⟩)),
  Or.inl ⟨9, zf_zm_166_6 env, zpc_c⟩,
  Or.inl ⟨10, zf_zm_166_7 env, zpc_c⟩,
  Or.inl ⟨13, zf_zm_166_8 env, zpc_c⟩,
  Or.inl ⟨15, zf_zm_166_9 env, zpc_c⟩,
  Or.inl ⟨16, zf_zm_166_10 env, zpc_c⟩,
  Or.inr (Or.inl (zf_zm_166_11 env)),
  Or.inl ⟨18, zf_zm_166_12 env, zpc_c⟩,
  Or.inr (Or.inl (zf_zm_166_13 env)), trivial⟩
theorem zf_zm_167_0 (env : List (Nat × Nat)) : zI9 167 zY_167 zm_167 env (0, 0, 4, 0, 0) 2 := zi_aload (by decide +kernel : decode zY_167.2.1 0 = .ok (.aload 4, 2))
theorem zf_zm_167_1 (env : List (Nat × Nat)) : zI9 167 zY_167 zm_167 env (2, 2, 0, 0, 0) 3 := zi_iconst (by decide +kernel : decode zY_167.2.1 2 = .ok (.iconst 0, 1)) (by decide +kernel)
theorem zf_zm_167_2 (env : List (Nat × Nat)) : zI9 167 zY_167 zm_167 env (3, 0, 0, 0, 0) 4 := zi_aload_n (by decide +kernel : decode zY_167.2.1 3 = .ok (.aload_n 0, 1)) rfl
theorem zf_zm_167_3 (env : List (Nat × Nat)) : zI9 167 zY_167 zm_167 env (4, 63, 1, 0, 0) 5 := zi_iload_n (by decide +kernel : decode zY_167.2.1 4 = .ok (.iload_n 1, 1)) rfl
theorem zf_zm_167_4 (env : List (Nat × Nat)) : zI9 167 zY_167 zm_167 env (5, 63, 2, 0, 0) 6 := zi_iload_n (by decide +kernel : decode zY_167.2.1 5 = .ok (.iload_n 2, 1)) rfl
theorem zf_zm_167_5 (env : List (Nat × Nat)) : zI9 167 zY_167 zm_167 env (6, 63, 3, 0, 0) 7 := zi_iload_n (by decide +kernel : decode zY_167.2.1 6 = .ok (.iload_n 3, 1)) rfl
theorem zf_zm_167_6 (env : List (Nat × Nat)) : zC9 167 zm_167 env (7, 3, 32, 260, 2) := zi_callT (by decide +kernel) (zr_V (i := 101) (n := 3) (q := ("TransportPair", zF_0, 8)) zX_ok rfl (zgood_32) (by decide +kernel) (zw_T zwd_124) (zw_T zwd_771) (zw_T zwd_772) rfl (zw_T zwd_773) ⟨by decide +kernel, by decide +kernel, by decide +kernel⟩ rfl (by decide +kernel : decode (zYf 167).2.1 7 = .ok (.invokevirtual 101, 3))) (zt_V (i := 101) (n := 3) (q := ("TransportPair", zF_0, 8)) zX_ok zeo_zm_167 zNC_ok rfl (zgood_32) (by decide +kernel) (zw_T zwd_124) (zw_T zwd_771) (zw_T zwd_772) rfl (zw_T zwd_773) ⟨by decide +kernel, by decide +kernel, by decide +kernel⟩ rfl (by decide +kernel : decode (zYf 167).2.1 7 = .ok (.invokevirtual 101, 3)))
theorem zf_zm_167_7 (env : List (Nat × Nat)) : zI9 167 zY_167 zm_167 env (10, 18, 0, 0, 0) 11 := zi_last (by decide +kernel : decode zY_167.2.1 10 = .ok (.lastore, 1))
theorem zf_zm_167_8 (env : List (Nat × Nat)) : zI9 167 zY_167 zm_167 env (11, 7, 12, 0, 0) 14 := zi_goto (off := 7) (t := 18) (by decide +kernel : decode zY_167.2.1 11 = .ok (.goto 7, 3)) (by decide) (by decide +kernel)
theorem zf_zm_167_9 (env : List (Nat × Nat)) : zI9 167 zY_167 zm_167 env (14, 65, 5, 0, 0) 16 := zi_astore (by decide +kernel : decode zY_167.2.1 14 = .ok (.astore 5, 2)) (by decide)
theorem zf_zm_167_10 (env : List (Nat × Nat)) : zI9 167 zY_167 zm_167 env (16, 2, 1, 0, 0) 17 := zi_iconst (by decide +kernel : decode zY_167.2.1 16 = .ok (.iconst 1, 1)) (by decide +kernel)
theorem zf_zm_167_11 (env : List (Nat × Nat)) : zR9 167 env (17, 11, 0, 0, 0) := zi_iret (by decide +kernel : decode (zYf 167).2.1 17 = .ok (.ireturn, 1)) rfl
theorem zf_zm_167_12 (env : List (Nat × Nat)) : zI9 167 zY_167 zm_167 env (18, 2, 0, 0, 0) 19 := zi_iconst (by decide +kernel : decode zY_167.2.1 18 = .ok (.iconst 0, 1)) (by decide +kernel)
theorem zf_zm_167_13 (env : List (Nat × Nat)) : zR9 167 env (19, 11, 0, 0, 0) := zi_iret (by decide +kernel : decode (zYf 167).2.1 19 = .ok (.ireturn, 1)) rfl
set_option maxRecDepth 100000 in
theorem zc_zm_167 (env : List (Nat × Nat)) : zcode zX (z_QF zEX zcl zft) (z_zm zEX zX zWL zcl zft zYf) zYf zW zET zcl zft (zGv env) 167 zm_167 zm_167.1 := ⟨Or.inl ⟨2, zf_zm_167_0 env, zpc_c⟩,
  Or.inl ⟨3, zf_zm_167_1 env, zpc_c⟩,
  Or.inl ⟨4, zf_zm_167_2 env, zpc_c⟩,
  Or.inl ⟨5, zf_zm_167_3 env, zpc_c⟩,
  Or.inl ⟨6, zf_zm_167_4 env, zpc_c⟩,
  Or.inl ⟨7, zf_zm_167_5 env, zpc_c⟩,
  Or.inr (Or.inr (Or.inl ⟨zf_zm_167_6 env, zpc_c⟩)),
  Or.inl ⟨11, zf_zm_167_7 env, zpc_c⟩,
  Or.inl ⟨14, zf_zm_167_8 env, zpc_c⟩,
  Or.inl ⟨16, zf_zm_167_9 env, zpc_c⟩,
  Or.inl ⟨17, zf_zm_167_10 env, zpc_c⟩,
  Or.inr (Or.inl (zf_zm_167_11 env)),
  Or.inl ⟨19, zf_zm_167_12 env, zpc_c⟩,
  Or.inr (Or.inl (zf_zm_167_13 env)), trivial⟩
theorem zf_zm_168_0 (env : List (Nat × Nat)) : zI9 168 zY_168 zm_168 env (0, 0, 4, 0, 0) 2 := zi_aload (by decide +kernel : decode zY_168.2.1 0 = .ok (.aload 4, 2))
theorem zf_zm_168_1 (env : List (Nat × Nat)) : zI9 168 zY_168 zm_168 env (2, 2, 0, 0, 0) 3 := zi_iconst (by decide +kernel : decode zY_168.2.1 2 = .ok (.iconst 0, 1)) (by decide +kernel)
theorem zf_zm_168_2 (env : List (Nat × Nat)) : zI9 168 zY_168 zm_168 env (3, 0, 0, 0, 0) 4 := zi_aload_n (by decide +kernel : decode zY_168.2.1 3 = .ok (.aload_n 0, 1)) rfl
theorem zf_zm_168_3 (env : List (Nat × Nat)) : zI9 168 zY_168 zm_168 env (4, 63, 1, 0, 0) 5 := zi_iload_n (by decide +kernel : decode zY_168.2.1 4 = .ok (.iload_n 1, 1)) rfl
theorem zf_zm_168_4 (env : List (Nat × Nat)) : zI9 168 zY_168 zm_168 env (5, 63, 2, 0, 0) 6 := zi_iload_n (by decide +kernel : decode zY_168.2.1 5 = .ok (.iload_n 2, 1)) rfl
theorem zf_zm_168_5 (env : List (Nat × Nat)) : zI9 168 zY_168 zm_168 env (6, 63, 3, 0, 0) 7 := zi_iload_n (by decide +kernel : decode zY_168.2.1 6 = .ok (.iload_n 3, 1)) rfl
theorem zf_zm_168_6 (env : List (Nat × Nat)) : zC9 168 zm_168 env (7, 3, 33, 262, 2) := zi_callT (by decide +kernel) (zr_V (i := 105) (n := 3) (q := ("TransportPair", zF_0, 8)) zX_ok rfl (zgood_33) (by decide +kernel) (zw_T zwd_124) (zw_T zwd_774) (zw_T zwd_775) rfl (zw_T zwd_776) ⟨by decide +kernel, by decide +kernel, by decide +kernel⟩ rfl (by decide +kernel : decode (zYf 168).2.1 7 = .ok (.invokevirtual 105, 3))) (zt_V (i := 105) (n := 3) (q := ("TransportPair", zF_0, 8)) zX_ok zeo_zm_168 zNC_ok rfl (zgood_33) (by decide +kernel) (zw_T zwd_124) (zw_T zwd_774) (zw_T zwd_775) rfl (zw_T zwd_776) ⟨by decide +kernel, by decide +kernel, by decide +kernel⟩ rfl (by decide +kernel : decode (zYf 168).2.1 7 = .ok (.invokevirtual 105, 3)))
theorem zf_zm_168_7 (env : List (Nat × Nat)) : zI9 168 zY_168 zm_168 env (10, 18, 0, 0, 0) 11 := zi_last (by decide +kernel : decode zY_168.2.1 10 = .ok (.lastore, 1))
theorem zf_zm_168_8 (env : List (Nat × Nat)) : zI9 168 zY_168 zm_168 env (11, 7, 12, 0, 0) 14 := zi_goto (off := 7) (t := 18) (by decide +kernel : decode zY_168.2.1 11 = .ok (.goto 7, 3)) (by decide) (by decide +kernel)
theorem zf_zm_168_9 (env : List (Nat × Nat)) : zI9 168 zY_168 zm_168 env (14, 65, 5, 0, 0) 16 := zi_astore (by decide +kernel : decode zY_168.2.1 14 = .ok (.astore 5, 2)) (by decide)
theorem zf_zm_168_10 (env : List (Nat × Nat)) : zI9 168 zY_168 zm_168 env (16, 2, 1, 0, 0) 17 := zi_iconst (by decide +kernel : decode zY_168.2.1 16 = .ok (.iconst 1, 1)) (by decide +kernel)
theorem zf_zm_168_11 (env : List (Nat × Nat)) : zR9 168 env (17, 11, 0, 0, 0) := zi_iret (by decide +kernel : decode (zYf 168).2.1 17 = .ok (.ireturn, 1)) rfl
theorem zf_zm_168_12 (env : List (Nat × Nat)) : zI9 168 zY_168 zm_168 env (18, 2, 0, 0, 0) 19 := zi_iconst (by decide +kernel : decode zY_168.2.1 18 = .ok (.iconst 0, 1)) (by decide +kernel)
theorem zf_zm_168_13 (env : List (Nat × Nat)) : zR9 168 env (19, 11, 0, 0, 0) := zi_iret (by decide +kernel : decode (zYf 168).2.1 19 = .ok (.ireturn, 1)) rfl
set_option maxRecDepth 100000 in
theorem zc_zm_168 (env : List (Nat × Nat)) : zcode zX (z_QF zEX zcl zft) (z_zm zEX zX zWL zcl zft zYf) zYf zW zET zcl zft (zGv env) 168 zm_168 zm_168.1 := ⟨Or.inl ⟨2, zf_zm_168_0 env, zpc_c⟩,
  Or.inl ⟨3, zf_zm_168_1 env, zpc_c⟩,
  Or.inl ⟨4, zf_zm_168_2 env, zpc_c⟩,
  Or.inl ⟨5, zf_zm_168_3 env, zpc_c⟩,
  Or.inl ⟨6, zf_zm_168_4 env, zpc_c⟩,
  Or.inl ⟨7, zf_zm_168_5 env, zpc_c⟩,
  Or.inr (Or.inr (Or.inl ⟨zf_zm_168_6 env, zpc_c⟩)),
  Or.inl ⟨11, zf_zm_168_7 env, zpc_c⟩,
  Or.inl ⟨14, zf_zm_168_8 env, zpc_c⟩,
  Or.inl ⟨16, zf_zm_168_9 env, zpc_c⟩,
  Or.inl ⟨17, zf_zm_168_10 env, zpc_c⟩,
  Or.inr (Or.inl (zf_zm_168_11 env)),
  Or.inl ⟨19, zf_zm_168_12 env, zpc_c⟩,
  Or.inr (Or.inl (zf_zm_168_13 env)), trivial⟩
theorem zf_zm_169_0 (env : List (Nat × Nat)) : zI9 169 zY_169 zm_169 env (0, 0, 3, 0, 0) 1 := zi_aload_n (by decide +kernel : decode zY_169.2.1 0 = .ok (.aload_n 3, 1)) rfl
theorem zf_zm_169_1 (env : List (Nat × Nat)) : zI9 169 zY_169 zm_169 env (1, 2, 0, 0, 0) 2 := zi_iconst (by decide +kernel : decode zY_169.2.1 1 = .ok (.iconst 0, 1)) (by decide +kernel)
theorem zf_zm_169_2 (env : List (Nat × Nat)) : zI9 169 zY_169 zm_169 env (2, 0, 0, 0, 0) 3 := zi_aload_n (by decide +kernel : decode zY_169.2.1 2 = .ok (.aload_n 0, 1)) rfl
theorem zf_zm_169_3 (env : List (Nat × Nat)) : zI9 169 zY_169 zm_169 env (3, 63, 1, 0, 0) 4 := zi_iload_n (by decide +kernel : decode zY_169.2.1 3 = .ok (.iload_n 1, 1)) rfl
theorem zf_zm_169_4 (env : List (Nat × Nat)) : zI9 169 zY_169 zm_169 env (4, 63, 2, 0, 0) 5 := zi_iload_n (by decide +kernel : decode zY_169.2.1 4 = .ok (.iload_n 2, 1)) rfl
theorem zf_zm_169_5 (env : List (Nat × Nat)) : zC9 169 zm_169 env (5, 3, 34, 195, 2) := zi_callT (by decide +kernel) (zr_V (i := 108) (n := 2) (q := ("TransportPair", zF_0, 8)) zX_ok rfl (zgood_34) (by decide +kernel) (zw_T zwd_124) (zw_T zwd_777) (zw_T zwd_778) rfl (zw_T zwd_779) ⟨by decide +kernel, by decide +kernel, by decide +kernel⟩ rfl (by decide +kernel : decode (zYf 169).2.1 5 = .ok (.invokevirtual 108, 3))) (zt_V (i := 108) (n := 2) (q := ("TransportPair", zF_0, 8)) zX_ok zeo_zm_169 zNC_ok rfl (zgood_34) (by decide +kernel) (zw_T zwd_124) (zw_T zwd_777) (zw_T zwd_778) rfl (zw_T zwd_779) ⟨by decide +kernel, by decide +kernel, by decide +kernel⟩ rfl (by decide +kernel : decode (zYf 169).2.1 5 = .ok (.invokevirtual 108, 3)))
theorem zf_zm_169_6 (env : List (Nat × Nat)) : zI9 169 zY_169 zm_169 env (8, 18, 0, 0, 0) 9 := zi_last (by decide +kernel : decode zY_169.2.1 8 = .ok (.lastore, 1))
theorem zf_zm_169_7 (env : List (Nat × Nat)) : zI9 169 zY_169 zm_169 env (9, 7, 11, 0, 0) 12 := zi_goto (off := 7) (t := 16) (by decide +kernel : decode zY_169.2.1 9 = .ok (.goto 7, 3)) (by decide) (by decide +kernel)
theorem zf_zm_169_8 (env : List (Nat × Nat)) : zI9 169 zY_169 zm_169 env (12, 65, 4, 0, 0) 14 := zi_astore (by decide +kernel : decode zY_169.2.1 12 = .ok (.astore 4, 2)) (by decide)
theorem zf_zm_169_9 (env : List (Nat × Nat)) : zI9 169 zY_169 zm_169 env (14, 2, 1, 0, 0) 15 := zi_iconst (by decide +kernel : decode zY_169.2.1 14 = .ok (.iconst 1, 1)) (by decide +kernel)
theorem zf_zm_169_10 (env : List (Nat × Nat)) : zR9 169 env (15, 11, 0, 0, 0) := zi_iret (by decide +kernel : decode (zYf 169).2.1 15 = .ok (.ireturn, 1)) rfl
theorem zf_zm_169_11 (env : List (Nat × Nat)) : zI9 169 zY_169 zm_169 env (16, 2, 0, 0, 0) 17 := zi_iconst (by decide +kernel : decode zY_169.2.1 16 = .ok (.iconst 0, 1)) (by decide +kernel)
theorem zf_zm_169_12 (env : List (Nat × Nat)) : zR9 169 env (17, 11, 0, 0, 0) := zi_iret (by decide +kernel : decode (zYf 169).2.1 17 = .ok (.ireturn, 1)) rfl
set_option maxRecDepth 100000 in
theorem zc_zm_169 (env : List (Nat × Nat)) : zcode zX (z_QF zEX zcl zft) (z_zm zEX zX zWL zcl zft zYf) zYf zW zET zcl zft (zGv env) 169 zm_169 zm_169.1 := ⟨Or.inl ⟨1, zf_zm_169_0 env, zpc_c⟩,
  Or.inl ⟨2, zf_zm_169_1 env, zpc_c⟩,
  Or.inl ⟨3, zf_zm_169_2 env, zpc_c⟩,
  Or.inl ⟨4, zf_zm_169_3 env, zpc_c⟩,
  Or.inl ⟨5, zf_zm_169_4 env, zpc_c⟩,
  Or.inr (Or.inr (Or.inl ⟨zf_zm_169_5 env, zpc_c⟩)),
  Or.inl ⟨9, zf_zm_169_6 env, zpc_c⟩,
  Or.inl ⟨12, zf_zm_169_7 env, zpc_c⟩,
  Or.inl ⟨14, zf_zm_169_8 env, zpc_c⟩,
  Or.inl ⟨15, zf_zm_169_9 env, zpc_c⟩,
  Or.inr (Or.inl (zf_zm_169_10 env)),
  Or.inl ⟨17, zf_zm_169_11 env, zpc_c⟩,
  Or.inr (Or.inl (zf_zm_169_12 env)), trivial⟩
