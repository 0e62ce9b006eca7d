/-! FACTS (by program) -/
theorem zf_zm_103_0 (env : List (Nat × Nat)) : zI9 103 zY_103 zm_103 env (0, 0, 0, 0, 0) 1 := zi_aload_n (by decide +kernel : decode zY_103.2.1 0 = .ok (.aload_n 0, 1)) rfl
theorem zf_zm_103_1 (env : List (Nat × Nat)) : zI9 103 zY_103 zm_103 env (1, 2, 0, 0, 0) 2 := zi_iconst (by decide +kernel : decode zY_103.2.1 1 = .ok (.iconst 0, 1)) (by decide +kernel)
theorem zf_zm_103_2 (env : List (Nat × Nat)) : zI9 103 zY_103 zm_103 env (2, 4, 12, 18, 3) 5 := zi_putf (i := 107) (N := 21) (C := "TransportPair$Streams") (ref := "TransportPair$Streams") (T := zF_12) (by decide +kernel : decode zY_103.2.1 2 = .ok (.putfield 107, 3)) rfl zuw_12 zFt_12 zFn_12 (by decide) (zw_T zwd_532) rfl rfl (ty := .boolean) (by decide +kernel) (rfl)
theorem zf_zm_103_3 (env : List (Nat × Nat)) : zI9 103 zY_103 zm_103 env (5, 0, 0, 0, 0) 6 := zi_aload_n (by decide +kernel : decode zY_103.2.1 5 = .ok (.aload_n 0, 1)) rfl
theorem zf_zm_103_4 (env : List (Nat × Nat)) : zI9 103 zY_103 zm_103 env (6, 63, 1, 0, 0) 7 := zi_iload_n (by decide +kernel : decode zY_103.2.1 6 = .ok (.iload_n 1, 1)) rfl
theorem zf_zm_103_5 (env : List (Nat × Nat)) : zC9 103 zm_103 env (7, 66, 99, 130, 14) := zi_call (by decide +kernel) (zr_V (i := 120) (n := 1) (q := ("TransportPair$Streams", zF_12, 21)) zX_ok rfl (zgood_99) (by decide +kernel) (zw_T zwd_149) (zw_T zwd_533) (zw_T zwd_200) rfl (zw_T zwd_201) ⟨by decide +kernel, by decide +kernel, by decide +kernel⟩ rfl (by decide +kernel : decode (zYf 103).2.1 7 = .ok (.invokevirtual 120, 3)))
theorem zf_zm_103_6 (env : List (Nat × Nat)) : zI9 103 zY_103 zm_103 env (10, 65, 2, 0, 0) 11 := zi_astore_n (by decide +kernel : decode zY_103.2.1 10 = .ok (.astore_n 2, 1)) rfl (by decide)
theorem zf_zm_103_7 (env : List (Nat × Nat)) : zI9 103 zY_103 zm_103 env (11, 0, 2, 0, 0) 12 := zi_aload_n (by decide +kernel : decode zY_103.2.1 11 = .ok (.aload_n 2, 1)) rfl
theorem zf_zm_103_8 (env : List (Nat × Nat)) : zI9 103 zY_103 zm_103 env (12, 43, 10, 0, 0) 15 := zi_ifnull (off := 10) (t := 22) (by decide +kernel : decode zY_103.2.1 12 = .ok (.ifnull 10, 3)) (by decide) (by decide +kernel)
theorem zf_zm_103_9 (env : List (Nat × Nat)) : zI9 103 zY_103 zm_103 env (15, 99, 0, 0, 0) 22 := zi_none
theorem zf_zm_103_10 (env : List (Nat × Nat)) : zI9 103 zY_103 zm_103 env (22, 2, 0, 0, 0) 23 := zi_iconst (by decide +kernel : decode zY_103.2.1 22 = .ok (.iconst 0, 1)) (by decide +kernel)
theorem zf_zm_103_11 (env : List (Nat × Nat)) : zR9 103 env (23, 11, 3, 0, 0) := zi_zret (by decide +kernel : decode (zYf 103).2.1 23 = .ok (.ireturn, 1)) rfl
theorem zf_zm_103_12 (env : List (Nat × Nat)) : zI9 103 zY_103 zm_103 env (24, 99, 0, 0, 0) 0 := zi_none
set_option maxRecDepth 100000 in
theorem zc_zm_103 (env : List (Nat × Nat)) : zcode zX (z_QF zEX zcl zft) (z_zm zEX zX zWL zcl zft zYf) zYf zW zET zcl zft (zGv env) 103 zm_103 zm_103.1 := ⟨Or.inl ⟨1, zf_zm_103_0 env, zpc_c⟩,
  Or.inl ⟨2, zf_zm_103_1 env, zpc_c⟩,
  Or.inl ⟨5, zf_zm_103_2 env, zpc_c⟩,
  Or.inl ⟨6, zf_zm_103_3 env, zpc_c⟩,
  Or.inl ⟨7, zf_zm_103_4 env, zpc_c⟩,
  Or.inr (Or.inr (Or.inl ⟨zf_zm_103_5 env, zpc_c⟩)),
  Or.inl ⟨11, zf_zm_103_6 env, zpc_c⟩,
  Or.inl ⟨12, zf_zm_103_7 env, zpc_c⟩,
  Or.inl ⟨15, zf_zm_103_8 env, zpc_c⟩,
  Or.inl ⟨22, zf_zm_103_9 env, zpc_c⟩,
  Or.inl ⟨23, zf_zm_103_10 env, zpc_c⟩,
  Or.inr (Or.inl (zf_zm_103_11 env)),
  Or.inl ⟨0, zf_zm_103_12 env, zpc_n⟩, trivial⟩
theorem zf_zm_104_0 (env : List (Nat × Nat)) : zI9 104 zY_104 zm_104 env (0, 0, 0, 0, 0) 1 := zi_aload_n (by decide +kernel : decode zY_104.2.1 0 = .ok (.aload_n 0, 1)) rfl
theorem zf_zm_104_1 (env : List (Nat × Nat)) : zI9 104 zY_104 zm_104 env (1, 2, 0, 0, 0) 2 := zi_iconst (by decide +kernel : decode zY_104.2.1 1 = .ok (.iconst 0, 1)) (by decide +kernel)
theorem zf_zm_104_2 (env : List (Nat × Nat)) : zI9 104 zY_104 zm_104 env (2, 4, 12, 18, 3) 5 := zi_putf (i := 107) (N := 21) (C := "TransportPair$Streams") (ref := "TransportPair$Streams") (T := zF_12) (by decide +kernel : decode zY_104.2.1 2 = .ok (.putfield 107, 3)) rfl zuw_12 zFt_12 zFn_12 (by decide) (zw_T zwd_532) rfl rfl (ty := .boolean) (by decide +kernel) (rfl)
theorem zf_zm_104_3 (env : List (Nat × Nat)) : zI9 104 zY_104 zm_104 env (5, 0, 0, 0, 0) 6 := zi_aload_n (by decide +kernel : decode zY_104.2.1 5 = .ok (.aload_n 0, 1)) rfl
theorem zf_zm_104_4 (env : List (Nat × Nat)) : zI9 104 zY_104 zm_104 env (6, 63, 1, 0, 0) 7 := zi_iload_n (by decide +kernel : decode zY_104.2.1 6 = .ok (.iload_n 1, 1)) rfl
theorem zf_zm_104_5 (env : List (Nat × Nat)) : zC9 104 zm_104 env (7, 66, 99, 130, 14) := zi_call (by decide +kernel) (zr_V (i := 120) (n := 1) (q := ("TransportPair$Streams", zF_12, 21)) zX_ok rfl (zgood_99) (by decide +kernel) (zw_T zwd_149) (zw_T zwd_533) (zw_T zwd_200) rfl (zw_T zwd_201) ⟨by decide +kernel, by decide +kernel, by decide +kernel⟩ rfl (by decide +kernel : decode (zYf 104).2.1 7 = .ok (.invokevirtual 120, 3)))
theorem zf_zm_104_6 (env : List (Nat × Nat)) : zI9 104 zY_104 zm_104 env (10, 65, 3, 0, 0) 11 := zi_astore_n (by decide +kernel : decode zY_104.2.1 10 = .ok (.astore_n 3, 1)) rfl (by decide)
theorem zf_zm_104_7 (env : List (Nat × Nat)) : zI9 104 zY_104 zm_104 env (11, 0, 3, 0, 0) 12 := zi_aload_n (by decide +kernel : decode zY_104.2.1 11 = .ok (.aload_n 3, 1)) rfl
theorem zf_zm_104_8 (env : List (Nat × Nat)) : zI9 104 zY_104 zm_104 env (12, 43, 10, 0, 0) 15 := zi_ifnull (off := 10) (t := 22) (by decide +kernel : decode zY_104.2.1 12 = .ok (.ifnull 10, 3)) (by decide) (by decide +kernel)
theorem zf_zm_104_9 (env : List (Nat × Nat)) : zI9 104 zY_104 zm_104 env (15, 99, 0, 0, 0) 22 := zi_none
theorem zf_zm_104_10 (env : List (Nat × Nat)) : zI9 104 zY_104 zm_104 env (22, 2, 0, 0, 0) 23 := zi_iconst (by decide +kernel : decode zY_104.2.1 22 = .ok (.iconst 0, 1)) (by decide +kernel)
theorem zf_zm_104_11 (env : List (Nat × Nat)) : zR9 104 env (23, 11, 3, 0, 0) := zi_zret (by decide +kernel : decode (zYf 104).2.1 23 = .ok (.ireturn, 1)) rfl
theorem zf_zm_104_12 (env : List (Nat × Nat)) : zI9 104 zY_104 zm_104 env (24, 99, 0, 0, 0) 0 := zi_none
set_option maxRecDepth 100000 in
theorem zc_zm_104 (env : List (Nat × Nat)) : zcode zX (z_QF zEX zcl zft) (z_zm zEX zX zWL zcl zft zYf) zYf zW zET zcl zft (zGv env) 104 zm_104 zm_104.1 := ⟨Or.inl ⟨1, zf_zm_104_0 env, zpc_c⟩,
  Or.inl ⟨2, zf_zm_104_1 env, zpc_c⟩,
  Or.inl ⟨5, zf_zm_104_2 env, zpc_c⟩,
  Or.inl ⟨6, zf_zm_104_3 env, zpc_c⟩,
  Or.inl ⟨7, zf_zm_104_4 env, zpc_c⟩,
  Or.inr (Or.inr (Or.inl ⟨zf_zm_104_5 env, zpc_c⟩)),
  Or.inl ⟨11, zf_zm_104_6 env, zpc_c⟩,
  Or.inl ⟨12, zf_zm_104_7 env, zpc_c⟩,
  Or.inl ⟨15, zf_zm_104_8 env, zpc_c⟩,
  Or.inl ⟨22, zf_zm_104_9 env, zpc_c⟩,
  Or.inl ⟨23, zf_zm_104_10 env, zpc_c⟩,
  Or.inr (Or.inl (zf_zm_104_11 env)),
  Or.inl ⟨0, zf_zm_104_12 env, zpc_n⟩, trivial⟩
theorem zf_zm_105_0 (env : List (Nat × Nat)) : zI9 105 zY_105 zm_105 env (0, 0, 0, 0, 0) 1 := zi_aload_n (by decide +kernel : decode zY_105.2.1 0 = .ok (.aload_n 0, 1)) rfl
theorem zf_zm_105_1 (env : List (Nat × Nat)) : zI9 105 zY_105 zm_105 env (1, 2, 0, 0, 0) 2 := zi_iconst (by decide +kernel : decode zY_105.2.1 1 = .ok (.iconst 0, 1)) (by decide +kernel)
theorem zf_zm_105_2 (env : List (Nat × Nat)) : zI9 105 zY_105 zm_105 env (2, 4, 12, 18, 3) 5 := zi_putf (i := 107) (N := 21) (C := "TransportPair$Streams") (ref := "TransportPair$Streams") (T := zF_12) (by decide +kernel : decode zY_105.2.1 2 = .ok (.putfield 107, 3)) rfl zuw_12 zFt_12 zFn_12 (by decide) (zw_T zwd_532) rfl rfl (ty := .boolean) (by decide +kernel) (rfl)
theorem zf_zm_105_3 (env : List (Nat × Nat)) : zI9 105 zY_105 zm_105 env (5, 0, 0, 0, 0) 6 := zi_aload_n (by decide +kernel : decode zY_105.2.1 5 = .ok (.aload_n 0, 1)) rfl
theorem zf_zm_105_4 (env : List (Nat × Nat)) : zI9 105 zY_105 zm_105 env (6, 63, 1, 0, 0) 7 := zi_iload_n (by decide +kernel : decode zY_105.2.1 6 = .ok (.iload_n 1, 1)) rfl
theorem zf_zm_105_5 (env : List (Nat × Nat)) : zC9 105 zm_105 env (7, 66, 100, 130, 14) := zi_call (by decide +kernel) (zr_V (i := 144) (n := 1) (q := ("TransportPair$Streams", zF_12, 21)) zX_ok rfl (zgood_100) (by decide +kernel) (zw_T zwd_149) (zw_T zwd_534) (zw_T zwd_204) rfl (zw_T zwd_205) ⟨by decide +kernel, by decide +kernel, by decide +kernel⟩ rfl (by decide +kernel : decode (zYf 105).2.1 7 = .ok (.invokevirtual 144, 3)))
theorem zf_zm_105_6 (env : List (Nat × Nat)) : zI9 105 zY_105 zm_105 env (10, 65, 3, 0, 0) 11 := zi_astore_n (by decide +kernel : decode zY_105.2.1 10 = .ok (.astore_n 3, 1)) rfl (by decide)
theorem zf_zm_105_7 (env : List (Nat × Nat)) : zI9 105 zY_105 zm_105 env (11, 0, 3, 0, 0) 12 := zi_aload_n (by decide +kernel : decode zY_105.2.1 11 = .ok (.aload_n 3, 1)) rfl
theorem zf_zm_105_8 (env : List (Nat × Nat)) : zI9 105 zY_105 zm_105 env (12, 43, 10, 0, 0) 15 := zi_ifnull (off := 17) (t := 29) (by decide +kernel : decode zY_105.2.1 12 = .ok (.ifnull 17, 3)) (by decide) (by decide +kernel)
theorem zf_zm_105_9 (env : List (Nat × Nat)) : zI9 105 zY_105 zm_105 env (15, 99, 0, 0, 0) 29 := zi_none
theorem zf_zm_105_10 (env : List (Nat × Nat)) : zI9 105 zY_105 zm_105 env (29, 2, 0, 0, 0) 30 := zi_iconst (by decide +kernel : decode zY_105.2.1 29 = .ok (.iconst 0, 1)) (by decide +kernel)
theorem zf_zm_105_11 (env : List (Nat × Nat)) : zR9 105 env (30, 11, 3, 0, 0) := zi_zret (by decide +kernel : decode (zYf 105).2.1 30 = .ok (.ireturn, 1)) rfl
theorem zf_zm_105_12 (env : List (Nat × Nat)) : zI9 105 zY_105 zm_105 env (31, 99, 0, 0, 0) 0 := zi_none
set_option maxRecDepth 100000 in
theorem zc_zm_105 (env : List (Nat × Nat)) : zcode zX (z_QF zEX zcl zft) (z_zm zEX zX zWL zcl zft zYf) zYf zW zET zcl zft (zGv env) 105 zm_105 zm_105.1 := ⟨Or.inl ⟨1, zf_zm_105_0 env, zpc_c⟩,
  Or.inl ⟨2, zf_zm_105_1 env, zpc_c⟩,
  Or.inl ⟨5, zf_zm_105_2 env, zpc_c⟩,
  Or.inl ⟨6, zf_zm_105_3 env, zpc_c⟩,
  Or.inl ⟨7, zf_zm_105_4 env, zpc_c⟩,
  Or.inr (Or.inr (Or.inl ⟨zf_zm_105_5 env, zpc_c⟩)),
  Or.inl ⟨11, zf_zm_105_6 env, zpc_c⟩,
  Or.inl ⟨12, zf_zm_105_7 env, zpc_c⟩,
  Or.inl ⟨15, zf_zm_105_8 env, zpc_c⟩,
  Or.inl ⟨29, zf_zm_105_9 env, zpc_c⟩,
  Or.inl ⟨30, zf_zm_105_10 env, zpc_c⟩,
  Or.inr (Or.inl (zf_zm_105_11 env)),
  Or.inl ⟨0, zf_zm_105_12 env, zpc_n⟩, trivial⟩
theorem zf_zm_106_0 (env : List (Nat × Nat)) : zI9 106 zY_106 zm_106 env (0, 0, 0, 0, 0) 1 := zi_aload_n (by decide +kernel : decode zY_106.2.1 0 = .ok (.aload_n 0, 1)) rfl
theorem zf_zm_106_1 (env : List (Nat × Nat)) : zI9 106 zY_106 zm_106 env (1, 2, 0, 0, 0) 2 := zi_iconst (by decide +kernel : decode zY_106.2.1 1 = .ok (.iconst 0, 1)) (by decide +kernel)
theorem zf_zm_106_2 (env : List (Nat × Nat)) : zI9 106 zY_106 zm_106 env (2, 4, 12, 18, 3) 5 := zi_putf (i := 107) (N := 21) (C := "TransportPair$Streams") (ref := "TransportPair$Streams") (T := zF_12) (by decide +kernel : decode zY_106.2.1 2 = .ok (.putfield 107, 3)) rfl zuw_12 zFt_12 zFn_12 (by decide) (zw_T zwd_532) rfl rfl (ty := .boolean) (by decide +kernel) (rfl)
theorem zf_zm_106_3 (env : List (Nat × Nat)) : zI9 106 zY_106 zm_106 env (5, 0, 0, 0, 0) 6 := zi_aload_n (by decide +kernel : decode zY_106.2.1 5 = .ok (.aload_n 0, 1)) rfl
theorem zf_zm_106_4 (env : List (Nat × Nat)) : zI9 106 zY_106 zm_106 env (6, 63, 1, 0, 0) 7 := zi_iload_n (by decide +kernel : decode zY_106.2.1 6 = .ok (.iload_n 1, 1)) rfl
theorem zf_zm_106_5 (env : List (Nat × Nat)) : zC9 106 zm_106 env (7, 66, 100, 130, 14) := zi_call (by decide +kernel) (zr_V (i := 144) (n := 1) (q := ("TransportPair$Streams", zF_12, 21)) zX_ok rfl (zgood_100) (by decide +kernel) (zw_T zwd_149) (zw_T zwd_534) (zw_T zwd_204) rfl (zw_T zwd_205) ⟨by decide +kernel, by decide +kernel, by decide +kernel⟩ rfl (by decide +kernel : decode (zYf 106).2.1 7 = .ok (.invokevirtual 144, 3)))
theorem zf_zm_106_6 (env : List (Nat × Nat)) : zI9 106 zY_106 zm_106 env (10, 65, 4, 0, 0) 12 := zi_astore (by decide +kernel : decode zY_106.2.1 10 = .ok (.astore 4, 2)) (by decide)
theorem zf_zm_106_7 (env : List (Nat × Nat)) : zI9 106 zY_106 zm_106 env (12, 0, 4, 0, 0) 14 := zi_aload (by decide +kernel : decode zY_106.2.1 12 = .ok (.aload 4, 2))
theorem zf_zm_106_8 (env : List (Nat × Nat)) : zI9 106 zY_106 zm_106 env (14, 44, 11, 0, 0) 17 := zi_ifnonnull (off := 5) (t := 19) (by decide +kernel : decode zY_106.2.1 14 = .ok (.ifnonnull 5, 3)) (by decide) (by decide +kernel)
theorem zf_zm_106_9 (env : List (Nat × Nat)) : zI9 106 zY_106 zm_106 env (17, 2, 4294967295, 0, 0) 18 := zi_iconst (by decide +kernel : decode zY_106.2.1 17 = .ok (.iconst (-1), 1)) (by decide +kernel)
theorem zf_zm_106_10 (env : List (Nat × Nat)) : zR9 106 env (18, 11, 0, 0, 0) := zi_iret (by decide +kernel : decode (zYf 106).2.1 18 = .ok (.ireturn, 1)) rfl
theorem zf_zm_106_11 (env : List (Nat × Nat)) : zI9 106 zY_106 zm_106 env (19, 99, 0, 0, 0) 0 := zi_none
set_option maxRecDepth 100000 in
theorem zc_zm_106 (env : List (Nat × Nat)) : zcode zX (z_QF zEX zcl zft) (z_zm zEX zX zWL zcl zft zYf) zYf zW zET zcl zft (zGv env) 106 zm_106 zm_106.1 := ⟨Or.inl ⟨1, zf_zm_106_0 env, zpc_c⟩,
  Or.inl ⟨2, zf_zm_106_1 env, zpc_c⟩,
  Or.inl ⟨5, zf_zm_106_2 env, zpc_c⟩,
  Or.inl ⟨6, zf_zm_106_3 env, zpc_c⟩,
  Or.inl ⟨7, zf_zm_106_4 env, zpc_c⟩,
  Or.inr (Or.inr (Or.inl ⟨zf_zm_106_5 env, zpc_c⟩)),
  Or.inl ⟨12, zf_zm_106_6 env, zpc_c⟩,
  Or.inl ⟨14, zf_zm_106_7 env, zpc_c⟩,
  Or.inl ⟨17, zf_zm_106_8 env, zpc_c⟩,
  Or.inl ⟨18, zf_zm_106_9 env, zpc_c⟩,
  Or.inr (Or.inl (zf_zm_106_10 env)),
  Or.inl ⟨0, zf_zm_106_11 env, zpc_n⟩, trivial⟩
theorem zf_zm_107_0 (env : List (Nat × Nat)) : zI9 107 zY_107 zm_107 env (0, 0, 0, 0, 0) 1 := zi_aload_n (by decide +kernel : decode zY_107.2.1 0 = .ok (.aload_n 0, 1)) rfl
theorem zf_zm_107_1 (env : List (Nat × Nat)) : zI9 107 zY_107 zm_107 env (1, 60, 0, 0, 0) 4 := zi_obj (i := 3) (by decide +kernel : decode zY_107.2.1 1 = .ok (.invokespecial 3, 3)) (zw_T zwd_535) (zw_T zwd_11) (zw_T zwd_12)
theorem zf_zm_107_2 (env : List (Nat × Nat)) : zI9 107 zY_107 zm_107 env (4, 0, 0, 0, 0) 5 := zi_aload_n (by decide +kernel : decode zY_107.2.1 4 = .ok (.aload_n 0, 1)) rfl
theorem zf_zm_107_3 (env : List (Nat × Nat)) : zI9 107 zY_107 zm_107 env (5, 2, 3, 0, 0) 6 := zi_iconst (by decide +kernel : decode zY_107.2.1 5 = .ok (.iconst 3, 1)) (by decide +kernel)
theorem zf_zm_107_4 (env : List (Nat × Nat)) : zI9 107 zY_107 zm_107 env (6, 12, 0, 0, 0) 8 := zi_newI (by decide +kernel : decode zY_107.2.1 6 = .ok (.newarray .int, 2)) (zw_T zwd_16) rfl rfl (by decide) rfl
theorem zf_zm_107_5 (env : List (Nat × Nat)) : zI9 107 zY_107 zm_107 env (8, 4, 13, 3, 2) 11 := zi_putfF (i := 9) (N := 38) (C := "TransportPairModel$Book") (ref := "TransportPairModel$Book") (T := zF_13) (by decide +kernel : decode zY_107.2.1 8 = .ok (.putfield 9, 3)) rfl zuw_13 zFt_13 zFn_13 (by decide) (zw_T zwd_536) rfl rfl rfl rfl (ty := .array .int) (by decide +kernel) (Or.inr ⟨_, rfl⟩)
theorem zf_zm_107_6 (env : List (Nat × Nat)) : zI9 107 zY_107 zm_107 env (11, 0, 0, 0, 0) 12 := zi_aload_n (by decide +kernel : decode zY_107.2.1 11 = .ok (.aload_n 0, 1)) rfl
theorem zf_zm_107_7 (env : List (Nat × Nat)) : zI9 107 zY_107 zm_107 env (12, 2, 12288, 0, 0) 15 := zi_sipush (by decide +kernel : decode zY_107.2.1 12 = .ok (.sipush 12288, 3)) (by decide +kernel)
theorem zf_zm_107_8 (env : List (Nat × Nat)) : zI9 107 zY_107 zm_107 env (15, 12, 0, 0, 0) 17 := zi_newI (by decide +kernel : decode zY_107.2.1 15 = .ok (.newarray .int, 2)) (zw_T zwd_16) rfl rfl (by decide) rfl
theorem zf_zm_107_9 (env : List (Nat × Nat)) : zI9 107 zY_107 zm_107 env (17, 4, 13, 4, 2) 20 := zi_putfF (i := 15) (N := 38) (C := "TransportPairModel$Book") (ref := "TransportPairModel$Book") (T := zF_13) (by decide +kernel : decode zY_107.2.1 17 = .ok (.putfield 15, 3)) rfl zuw_13 zFt_13 zFn_13 (by decide) (zw_T zwd_537) rfl rfl rfl rfl (ty := .array .int) (by decide +kernel) (Or.inr ⟨_, rfl⟩)
theorem zf_zm_107_10 (env : List (Nat × Nat)) : zI9 107 zY_107 zm_107 env (20, 0, 0, 0, 0) 21 := zi_aload_n (by decide +kernel : decode zY_107.2.1 20 = .ok (.aload_n 0, 1)) rfl
theorem zf_zm_107_11 (env : List (Nat × Nat)) : zI9 107 zY_107 zm_107 env (21, 2, 12288, 0, 0) 24 := zi_sipush (by decide +kernel : decode zY_107.2.1 21 = .ok (.sipush 12288, 3)) (by decide +kernel)
theorem zf_zm_107_12 (env : List (Nat × Nat)) : zI9 107 zY_107 zm_107 env (24, 12, 0, 0, 0) 26 := zi_newI (by decide +kernel : decode zY_107.2.1 24 = .ok (.newarray .int, 2)) (zw_T zwd_16) rfl rfl (by decide) rfl
theorem zf_zm_107_13 (env : List (Nat × Nat)) : zI9 107 zY_107 zm_107 env (26, 4, 13, 5, 2) 29 := zi_putfF (i := 18) (N := 38) (C := "TransportPairModel$Book") (ref := "TransportPairModel$Book") (T := zF_13) (by decide +kernel : decode zY_107.2.1 26 = .ok (.putfield 18, 3)) rfl zuw_13 zFt_13 zFn_13 (by decide) (zw_T zwd_538) rfl rfl rfl rfl (ty := .array .int) (by decide +kernel) (Or.inr ⟨_, rfl⟩)
theorem zf_zm_107_14 (env : List (Nat × Nat)) : zI9 107 zY_107 zm_107 env (29, 0, 0, 0, 0) 30 := zi_aload_n (by decide +kernel : decode zY_107.2.1 29 = .ok (.aload_n 0, 1)) rfl
theorem zf_zm_107_15 (env : List (Nat × Nat)) : zI9 107 zY_107 zm_107 env (30, 2, 12288, 0, 0) 33 := zi_sipush (by decide +kernel : decode zY_107.2.1 30 = .ok (.sipush 12288, 3)) (by decide +kernel)
theorem zf_zm_107_16 (env : List (Nat × Nat)) : zI9 107 zY_107 zm_107 env (33, 12, 0, 1, 0) 35 := zi_newI (by decide +kernel : decode zY_107.2.1 33 = .ok (.newarray .byte, 2)) (zw_T zwd_79) rfl rfl (by decide) rfl
theorem zf_zm_107_17 (env : List (Nat × Nat)) : zI9 107 zY_107 zm_107 env (35, 4, 13, 6, 2) 38 := zi_putfF (i := 21) (N := 38) (C := "TransportPairModel$Book") (ref := "TransportPairModel$Book") (T := zF_13) (by decide +kernel : decode zY_107.2.1 35 = .ok (.putfield 21, 3)) rfl zuw_13 zFt_13 zFn_13 (by decide) (zw_T zwd_539) rfl rfl rfl rfl (ty := .array .byte) (by decide +kernel) (Or.inr ⟨_, rfl⟩)
theorem zf_zm_107_18 (env : List (Nat × Nat)) : zI9 107 zY_107 zm_107 env (38, 0, 0, 0, 0) 39 := zi_aload_n (by decide +kernel : decode zY_107.2.1 38 = .ok (.aload_n 0, 1)) rfl
theorem zf_zm_107_19 (env : List (Nat × Nat)) : zI9 107 zY_107 zm_107 env (39, 2, 12288, 0, 0) 42 := zi_sipush (by decide +kernel : decode zY_107.2.1 39 = .ok (.sipush 12288, 3)) (by decide +kernel)
theorem zf_zm_107_20 (env : List (Nat × Nat)) : zI9 107 zY_107 zm_107 env (42, 12, 0, 2, 0) 44 := zi_newI (by decide +kernel : decode zY_107.2.1 42 = .ok (.newarray .boolean, 2)) (zw_T zwd_43) rfl rfl (by decide) rfl
theorem zf_zm_107_21 (env : List (Nat × Nat)) : zI9 107 zY_107 zm_107 env (44, 4, 13, 7, 2) 47 := zi_putfF (i := 25) (N := 38) (C := "TransportPairModel$Book") (ref := "TransportPairModel$Book") (T := zF_13) (by decide +kernel : decode zY_107.2.1 44 = .ok (.putfield 25, 3)) rfl zuw_13 zFt_13 zFn_13 (by decide) (zw_T zwd_540) rfl rfl rfl rfl (ty := .array .boolean) (by decide +kernel) (Or.inr ⟨_, rfl⟩)
theorem zf_zm_107_22 (env : List (Nat × Nat)) : zI9 107 zY_107 zm_107 env (47, 0, 0, 0, 0) 48 := zi_aload_n (by decide +kernel : decode zY_107.2.1 47 = .ok (.aload_n 0, 1)) rfl
theorem zf_zm_107_23 (env : List (Nat × Nat)) : zI9 107 zY_107 zm_107 env (48, 2, 12288, 0, 0) 51 := zi_sipush (by decide +kernel : decode zY_107.2.1 48 = .ok (.sipush 12288, 3)) (by decide +kernel)
theorem zf_zm_107_24 (env : List (Nat × Nat)) : zI9 107 zY_107 zm_107 env (51, 12, 0, 2, 0) 53 := zi_newI (by decide +kernel : decode zY_107.2.1 51 = .ok (.newarray .boolean, 2)) (zw_T zwd_43) rfl rfl (by decide) rfl
theorem zf_zm_107_25 (env : List (Nat × Nat)) : zI9 107 zY_107 zm_107 env (53, 4, 13, 8, 2) 56 := zi_putfF (i := 29) (N := 38) (C := "TransportPairModel$Book") (ref := "TransportPairModel$Book") (T := zF_13) (by decide +kernel : decode zY_107.2.1 53 = .ok (.putfield 29, 3)) rfl zuw_13 zFt_13 zFn_13 (by decide) (zw_T zwd_541) rfl rfl rfl rfl (ty := .array .boolean) (by decide +kernel) (Or.inr ⟨_, rfl⟩)
theorem zf_zm_107_26 (env : List (Nat × Nat)) : zI9 107 zY_107 zm_107 env (56, 0, 0, 0, 0) 57 := zi_aload_n (by decide +kernel : decode zY_107.2.1 56 = .ok (.aload_n 0, 1)) rfl
theorem zf_zm_107_27 (env : List (Nat × Nat)) : zI9 107 zY_107 zm_107 env (57, 2, 12288, 0, 0) 60 := zi_sipush (by decide +kernel : decode zY_107.2.1 57 = .ok (.sipush 12288, 3)) (by decide +kernel)
theorem zf_zm_107_28 (env : List (Nat × Nat)) : zI9 107 zY_107 zm_107 env (60, 12, 0, 2, 0) 62 := zi_newI (by decide +kernel : decode zY_107.2.1 60 = .ok (.newarray .boolean, 2)) (zw_T zwd_43) rfl rfl (by decide) rfl
theorem zf_zm_107_29 (env : List (Nat × Nat)) : zI9 107 zY_107 zm_107 env (62, 4, 13, 9, 2) 65 := zi_putfF (i := 32) (N := 38) (C := "TransportPairModel$Book") (ref := "TransportPairModel$Book") (T := zF_13) (by decide +kernel : decode zY_107.2.1 62 = .ok (.putfield 32, 3)) rfl zuw_13 zFt_13 zFn_13 (by decide) (zw_T zwd_542) rfl rfl rfl rfl (ty := .array .boolean) (by decide +kernel) (Or.inr ⟨_, rfl⟩)
theorem zf_zm_107_30 (env : List (Nat × Nat)) : zI9 107 zY_107 zm_107 env (65, 0, 0, 0, 0) 66 := zi_aload_n (by decide +kernel : decode zY_107.2.1 65 = .ok (.aload_n 0, 1)) rfl
theorem zf_zm_107_31 (env : List (Nat × Nat)) : zI9 107 zY_107 zm_107 env (66, 2, 3, 0, 0) 67 := zi_iconst (by decide +kernel : decode zY_107.2.1 66 = .ok (.iconst 3, 1)) (by decide +kernel)
theorem zf_zm_107_32 (env : List (Nat × Nat)) : zI9 107 zY_107 zm_107 env (67, 12, 0, 0, 0) 69 := zi_newI (by decide +kernel : decode zY_107.2.1 67 = .ok (.newarray .int, 2)) (zw_T zwd_16) rfl rfl (by decide) rfl
theorem zf_zm_107_33 (env : List (Nat × Nat)) : zI9 107 zY_107 zm_107 env (69, 4, 13, 10, 2) 72 := zi_putfF (i := 35) (N := 38) (C := "TransportPairModel$Book") (ref := "TransportPairModel$Book") (T := zF_13) (by decide +kernel : decode zY_107.2.1 69 = .ok (.putfield 35, 3)) rfl zuw_13 zFt_13 zFn_13 (by decide) (zw_T zwd_543) rfl rfl rfl rfl (ty := .array .int) (by decide +kernel) (Or.inr ⟨_, rfl⟩)
theorem zf_zm_107_34 (env : List (Nat × Nat)) : zI9 107 zY_107 zm_107 env (72, 0, 0, 0, 0) 73 := zi_aload_n (by decide +kernel : decode zY_107.2.1 72 = .ok (.aload_n 0, 1)) rfl
theorem zf_zm_107_35 (env : List (Nat × Nat)) : zI9 107 zY_107 zm_107 env (73, 2, 3, 0, 0) 74 := zi_iconst (by decide +kernel : decode zY_107.2.1 73 = .ok (.iconst 3, 1)) (by decide +kernel)
theorem zf_zm_107_36 (env : List (Nat × Nat)) : zI9 107 zY_107 zm_107 env (74, 12, 0, 2, 0) 76 := zi_newI (by decide +kernel : decode zY_107.2.1 74 = .ok (.newarray .boolean, 2)) (zw_T zwd_43) rfl rfl (by decide) rfl
theorem zf_zm_107_37 (env : List (Nat × Nat)) : zI9 107 zY_107 zm_107 env (76, 4, 13, 11, 2) 79 := zi_putfF (i := 38) (N := 38) (C := "TransportPairModel$Book") (ref := "TransportPairModel$Book") (T := zF_13) (by decide +kernel : decode zY_107.2.1 76 = .ok (.putfield 38, 3)) rfl zuw_13 zFt_13 zFn_13 (by decide) (zw_T zwd_544) rfl rfl rfl rfl (ty := .array .boolean) (by decide +kernel) (Or.inr ⟨_, rfl⟩)
theorem zf_zm_107_38 (env : List (Nat × Nat)) : zI9 107 zY_107 zm_107 env (79, 0, 0, 0, 0) 80 := zi_aload_n (by decide +kernel : decode zY_107.2.1 79 = .ok (.aload_n 0, 1)) rfl
theorem zf_zm_107_39 (env : List (Nat × Nat)) : zI9 107 zY_107 zm_107 env (80, 2, 3, 0, 0) 81 := zi_iconst (by decide +kernel : decode zY_107.2.1 80 = .ok (.iconst 3, 1)) (by decide +kernel)
theorem zf_zm_107_40 (env : List (Nat × Nat)) : zI9 107 zY_107 zm_107 env (81, 12, 0, 0, 0) 83 := zi_newI (by decide +kernel : decode zY_107.2.1 81 = .ok (.newarray .int, 2)) (zw_T zwd_16) rfl rfl (by decide) rfl
theorem zf_zm_107_41 (env : List (Nat × Nat)) : zI9 107 zY_107 zm_107 env (83, 4, 13, 12, 2) 86 := zi_putfF (i := 41) (N := 38) (C := "TransportPairModel$Book") (ref := "TransportPairModel$Book") (T := zF_13) (by decide +kernel : decode zY_107.2.1 83 = .ok (.putfield 41, 3)) rfl zuw_13 zFt_13 zFn_13 (by decide) (zw_T zwd_545) rfl rfl rfl rfl (ty := .array .int) (by decide +kernel) (Or.inr ⟨_, rfl⟩)
theorem zf_zm_107_42 (env : List (Nat × Nat)) : zI9 107 zY_107 zm_107 env (86, 0, 0, 0, 0) 87 := zi_aload_n (by decide +kernel : decode zY_107.2.1 86 = .ok (.aload_n 0, 1)) rfl
theorem zf_zm_107_43 (env : List (Nat × Nat)) : zI9 107 zY_107 zm_107 env (87, 2, 3, 0, 0) 88 := zi_iconst (by decide +kernel : decode zY_107.2.1 87 = .ok (.iconst 3, 1)) (by decide +kernel)
theorem zf_zm_107_44 (env : List (Nat × Nat)) : zI9 107 zY_107 zm_107 env (88, 12, 0, 0, 0) 90 := zi_newI (by decide +kernel : decode zY_107.2.1 88 = .ok (.newarray .int, 2)) (zw_T zwd_16) rfl rfl (by decide) rfl
theorem zf_zm_107_45 (env : List (Nat × Nat)) : zI9 107 zY_107 zm_107 env (90, 4, 13, 13, 2) 93 := zi_putfF (i := 44) (N := 38) (C := "TransportPairModel$Book") (ref := "TransportPairModel$Book") (T := zF_13) (by decide +kernel : decode zY_107.2.1 90 = .ok (.putfield 44, 3)) rfl zuw_13 zFt_13 zFn_13 (by decide) (zw_T zwd_546) rfl rfl rfl rfl (ty := .array .int) (by decide +kernel) (Or.inr ⟨_, rfl⟩)
theorem zf_zm_107_46 (env : List (Nat × Nat)) : zI9 107 zY_107 zm_107 env (93, 0, 0, 0, 0) 94 := zi_aload_n (by decide +kernel : decode zY_107.2.1 93 = .ok (.aload_n 0, 1)) rfl
theorem zf_zm_107_47 (env : List (Nat × Nat)) : zI9 107 zY_107 zm_107 env (94, 2, 24576, 0, 0) 97 := zi_sipush (by decide +kernel : decode zY_107.2.1 94 = .ok (.sipush 24576, 3)) (by decide +kernel)
theorem zf_zm_107_48 (env : List (Nat × Nat)) : zI9 107 zY_107 zm_107 env (97, 12, 0, 12, 0) 99 := zi_newI (by decide +kernel : decode zY_107.2.1 97 = .ok (.newarray .short, 2)) (zw_T zwd_547) rfl rfl (by decide) rfl
theorem zf_zm_107_49 (env : List (Nat × Nat)) : zI9 107 zY_107 zm_107 env (99, 4, 13, 15, 2) 102 := zi_putfF (i := 47) (N := 38) (C := "TransportPairModel$Book") (ref := "TransportPairModel$Book") (T := zF_13) (by decide +kernel : decode zY_107.2.1 99 = .ok (.putfield 47, 3)) rfl zuw_13 zFt_13 zFn_13 (by decide) (zw_T zwd_548) rfl rfl rfl rfl (ty := .array .short) (by decide +kernel) (Or.inr ⟨_, rfl⟩)
theorem zf_zm_107_50 (env : List (Nat × Nat)) : zI9 107 zY_107 zm_107 env (102, 0, 0, 0, 0) 103 := zi_aload_n (by decide +kernel : decode zY_107.2.1 102 = .ok (.aload_n 0, 1)) rfl
theorem zf_zm_107_51 (env : List (Nat × Nat)) : zI9 107 zY_107 zm_107 env (103, 2, 6, 0, 0) 105 := zi_bipush (by decide +kernel : decode zY_107.2.1 103 = .ok (.bipush 6, 2)) (by decide +kernel)
theorem zf_zm_107_52 (env : List (Nat × Nat)) : zI9 107 zY_107 zm_107 env (105, 12, 0, 0, 0) 107 := zi_newI (by decide +kernel : decode zY_107.2.1 105 = .ok (.newarray .int, 2)) (zw_T zwd_16) rfl rfl (by decide) rfl
theorem zf_zm_107_53 (env : List (Nat × Nat)) : zI9 107 zY_107 zm_107 env (107, 4, 13, 16, 2) 110 := zi_putfF (i := 51) (N := 38) (C := "TransportPairModel$Book") (ref := "TransportPairModel$Book") (T := zF_13) (by decide +kernel : decode zY_107.2.1 107 = .ok (.putfield 51, 3)) rfl zuw_13 zFt_13 zFn_13 (by decide) (zw_T zwd_549) rfl rfl rfl rfl (ty := .array .int) (by decide +kernel) (Or.inr ⟨_, rfl⟩)
theorem zf_zm_107_54 (env : List (Nat × Nat)) : zI9 107 zY_107 zm_107 env (110, 0, 0, 0, 0) 111 := zi_aload_n (by decide +kernel : decode zY_107.2.1 110 = .ok (.aload_n 0, 1)) rfl
theorem zf_zm_107_55 (env : List (Nat × Nat)) : zI9 107 zY_107 zm_107 env (111, 2, 6, 0, 0) 113 := zi_bipush (by decide +kernel : decode zY_107.2.1 111 = .ok (.bipush 6, 2)) (by decide +kernel)
theorem zf_zm_107_56 (env : List (Nat × Nat)) : zI9 107 zY_107 zm_107 env (113, 12, 0, 0, 0) 115 := zi_newI (by decide +kernel : decode zY_107.2.1 113 = .ok (.newarray .int, 2)) (zw_T zwd_16) rfl rfl (by decide) rfl
theorem zf_zm_107_57 (env : List (Nat × Nat)) : zI9 107 zY_107 zm_107 env (115, 4, 13, 17, 2) 118 := zi_putfF (i := 54) (N := 38) (C := "TransportPairModel$Book") (ref := "TransportPairModel$Book") (T := zF_13) (by decide +kernel : decode zY_107.2.1 115 = .ok (.putfield 54, 3)) rfl zuw_13 zFt_13 zFn_13 (by decide) (zw_T zwd_550) rfl rfl rfl rfl (ty := .array .int) (by decide +kernel) (Or.inr ⟨_, rfl⟩)
theorem zf_zm_107_58 (env : List (Nat × Nat)) : zI9 107 zY_107 zm_107 env (118, 0, 0, 0, 0) 119 := zi_aload_n (by decide +kernel : decode zY_107.2.1 118 = .ok (.aload_n 0, 1)) rfl
theorem zf_zm_107_59 (env : List (Nat × Nat)) : zI9 107 zY_107 zm_107 env (119, 2, 800, 0, 0) 122 := zi_sipush (by decide +kernel : decode zY_107.2.1 119 = .ok (.sipush 800, 3)) (by decide +kernel)
theorem zf_zm_107_60 (env : List (Nat × Nat)) : zI9 107 zY_107 zm_107 env (122, 4, 13, 18, 0) 125 := zi_putf (i := 57) (N := 38) (C := "TransportPairModel$Book") (ref := "TransportPairModel$Book") (T := zF_13) (by decide +kernel : decode zY_107.2.1 122 = .ok (.putfield 57, 3)) rfl zuw_13 zFt_13 zFn_13 (by decide) (zw_T zwd_551) rfl rfl (ty := .int) (by decide +kernel) (rfl)
theorem zf_zm_107_61 (env : List (Nat × Nat)) : zI9 107 zY_107 zm_107 env (125, 0, 0, 0, 0) 126 := zi_aload_n (by decide +kernel : decode zY_107.2.1 125 = .ok (.aload_n 0, 1)) rfl
theorem zf_zm_107_62 (env : List (Nat × Nat)) : zI9 107 zY_107 zm_107 env (126, 2, 200, 0, 0) 129 := zi_sipush (by decide +kernel : decode zY_107.2.1 126 = .ok (.sipush 200, 3)) (by decide +kernel)
theorem zf_zm_107_63 (env : List (Nat × Nat)) : zI9 107 zY_107 zm_107 env (129, 4, 13, 19, 0) 132 := zi_putf (i := 61) (N := 38) (C := "TransportPairModel$Book") (ref := "TransportPairModel$Book") (T := zF_13) (by decide +kernel : decode zY_107.2.1 129 = .ok (.putfield 61, 3)) rfl zuw_13 zFt_13 zFn_13 (by decide) (zw_T zwd_552) rfl rfl (ty := .int) (by decide +kernel) (rfl)
theorem zf_zm_107_64 (env : List (Nat × Nat)) : zI9 107 zY_107 zm_107 env (132, 0, 0, 0, 0) 133 := zi_aload_n (by decide +kernel : decode zY_107.2.1 132 = .ok (.aload_n 0, 1)) rfl
theorem zf_zm_107_65 (env : List (Nat × Nat)) : zI9 107 zY_107 zm_107 env (133, 2, 4294967295, 0, 0) 134 := zi_iconst (by decide +kernel : decode zY_107.2.1 133 = .ok (.iconst (-1), 1)) (by decide +kernel)
theorem zf_zm_107_66 (env : List (Nat × Nat)) : zI9 107 zY_107 zm_107 env (134, 4, 13, 21, 0) 137 := zi_putf (i := 64) (N := 38) (C := "TransportPairModel$Book") (ref := "TransportPairModel$Book") (T := zF_13) (by decide +kernel : decode zY_107.2.1 134 = .ok (.putfield 64, 3)) rfl zuw_13 zFt_13 zFn_13 (by decide) (zw_T zwd_553) rfl rfl (ty := .int) (by decide +kernel) (rfl)
theorem zf_zm_107_67 (env : List (Nat × Nat)) : zI9 107 zY_107 zm_107 env (137, 0, 0, 0, 0) 138 := zi_aload_n (by decide +kernel : decode zY_107.2.1 137 = .ok (.aload_n 0, 1)) rfl
theorem zf_zm_107_68 (env : List (Nat × Nat)) : zI9 107 zY_107 zm_107 env (138, 2, 4294967295, 0, 0) 139 := zi_iconst (by decide +kernel : decode zY_107.2.1 138 = .ok (.iconst (-1), 1)) (by decide +kernel)
theorem zf_zm_107_69 (env : List (Nat × Nat)) : zI9 107 zY_107 zm_107 env (139, 4, 13, 22, 0) 142 := zi_putf (i := 67) (N := 38) (C := "TransportPairModel$Book") (ref := "TransportPairModel$Book") (T := zF_13) (by decide +kernel : decode zY_107.2.1 139 = .ok (.putfield 67, 3)) rfl zuw_13 zFt_13 zFn_13 (by decide) (zw_T zwd_554) rfl rfl (ty := .int) (by decide +kernel) (rfl)
theorem zf_zm_107_70 (env : List (Nat × Nat)) : zI9 107 zY_107 zm_107 env (142, 0, 0, 0, 0) 143 := zi_aload_n (by decide +kernel : decode zY_107.2.1 142 = .ok (.aload_n 0, 1)) rfl
theorem zf_zm_107_71 (env : List (Nat × Nat)) : zI9 107 zY_107 zm_107 env (143, 2, 12000, 0, 0) 146 := zi_sipush (by decide +kernel : decode zY_107.2.1 143 = .ok (.sipush 12000, 3)) (by decide +kernel)
theorem zf_zm_107_72 (env : List (Nat × Nat)) : zI9 107 zY_107 zm_107 env (146, 4, 13, 24, 0) 149 := zi_putf (i := 70) (N := 38) (C := "TransportPairModel$Book") (ref := "TransportPairModel$Book") (T := zF_13) (by decide +kernel : decode zY_107.2.1 146 = .ok (.putfield 70, 3)) rfl zuw_13 zFt_13 zFn_13 (by decide) (zw_T zwd_555) rfl rfl (ty := .int) (by decide +kernel) (rfl)
theorem zf_zm_107_73 (env : List (Nat × Nat)) : zI9 107 zY_107 zm_107 env (149, 0, 0, 0, 0) 150 := zi_aload_n (by decide +kernel : decode zY_107.2.1 149 = .ok (.aload_n 0, 1)) rfl
theorem zf_zm_107_74 (env : List (Nat × Nat)) : zI9 107 zY_107 zm_107 env (150, 2, 4294967295, 0, 0) 151 := zi_iconst (by decide +kernel : decode zY_107.2.1 150 = .ok (.iconst (-1), 1)) (by decide +kernel)
theorem zf_zm_107_75 (env : List (Nat × Nat)) : zI9 107 zY_107 zm_107 env (151, 4, 13, 25, 0) 154 := zi_putf (i := 73) (N := 38) (C := "TransportPairModel$Book") (ref := "TransportPairModel$Book") (T := zF_13) (by decide +kernel : decode zY_107.2.1 151 = .ok (.putfield 73, 3)) rfl zuw_13 zFt_13 zFn_13 (by decide) (zw_T zwd_556) rfl rfl (ty := .int) (by decide +kernel) (rfl)
theorem zf_zm_107_76 (env : List (Nat × Nat)) : zI9 107 zY_107 zm_107 env (154, 0, 0, 0, 0) 155 := zi_aload_n (by decide +kernel : decode zY_107.2.1 154 = .ok (.aload_n 0, 1)) rfl
theorem zf_zm_107_77 (env : List (Nat × Nat)) : zI9 107 zY_107 zm_107 env (155, 2, 4294967295, 0, 0) 156 := zi_iconst (by decide +kernel : decode zY_107.2.1 155 = .ok (.iconst (-1), 1)) (by decide +kernel)
theorem zf_zm_107_78 (env : List (Nat × Nat)) : zI9 107 zY_107 zm_107 env (156, 4, 13, 26, 0) 159 := zi_putf (i := 76) (N := 38) (C := "TransportPairModel$Book") (ref := "TransportPairModel$Book") (T := zF_13) (by decide +kernel : decode zY_107.2.1 156 = .ok (.putfield 76, 3)) rfl zuw_13 zFt_13 zFn_13 (by decide) (zw_T zwd_557) rfl rfl (ty := .int) (by decide +kernel) (rfl)
theorem zf_zm_107_79 (env : List (Nat × Nat)) : zI9 107 zY_107 zm_107 env (159, 0, 0, 0, 0) 160 := zi_aload_n (by decide +kernel : decode zY_107.2.1 159 = .ok (.aload_n 0, 1)) rfl
theorem zf_zm_107_80 (env : List (Nat × Nat)) : zI9 107 zY_107 zm_107 env (160, 2, 64, 0, 0) 162 := zi_bipush (by decide +kernel : decode zY_107.2.1 160 = .ok (.bipush 64, 2)) (by decide +kernel)
theorem zf_zm_107_81 (env : List (Nat × Nat)) : zI9 107 zY_107 zm_107 env (162, 12, 1, 3, 0) 164 := zi_newL (by decide +kernel : decode zY_107.2.1 162 = .ok (.newarray .long, 2)) (zw_T zwd_13) rfl rfl
theorem zf_zm_107_82 (env : List (Nat × Nat)) : zI9 107 zY_107 zm_107 env (164, 4, 13, 28, 2) 167 := zi_putfF (i := 79) (N := 38) (C := "TransportPairModel$Book") (ref := "TransportPairModel$Book") (T := zF_13) (by decide +kernel : decode zY_107.2.1 164 = .ok (.putfield 79, 3)) rfl zuw_13 zFt_13 zFn_13 (by decide) (zw_T zwd_558) rfl rfl rfl rfl (ty := .array .long) (by decide +kernel) (Or.inr ⟨_, rfl⟩)
theorem zf_zm_107_83 (env : List (Nat × Nat)) : zI9 107 zY_107 zm_107 env (167, 0, 0, 0, 0) 168 := zi_aload_n (by decide +kernel : decode zY_107.2.1 167 = .ok (.aload_n 0, 1)) rfl
theorem zf_zm_107_84 (env : List (Nat × Nat)) : zI9 107 zY_107 zm_107 env (168, 2, 64, 0, 0) 170 := zi_bipush (by decide +kernel : decode zY_107.2.1 168 = .ok (.bipush 64, 2)) (by decide +kernel)
theorem zf_zm_107_85 (env : List (Nat × Nat)) : zI9 107 zY_107 zm_107 env (170, 12, 1, 3, 0) 172 := zi_newL (by decide +kernel : decode zY_107.2.1 170 = .ok (.newarray .long, 2)) (zw_T zwd_13) rfl rfl
theorem zf_zm_107_86 (env : List (Nat × Nat)) : zI9 107 zY_107 zm_107 env (172, 4, 13, 29, 2) 175 := zi_putfF (i := 83) (N := 38) (C := "TransportPairModel$Book") (ref := "TransportPairModel$Book") (T := zF_13) (by decide +kernel : decode zY_107.2.1 172 = .ok (.putfield 83, 3)) rfl zuw_13 zFt_13 zFn_13 (by decide) (zw_T zwd_559) rfl rfl rfl rfl (ty := .array .long) (by decide +kernel) (Or.inr ⟨_, rfl⟩)
theorem zf_zm_107_87 (env : List (Nat × Nat)) : zI9 107 zY_107 zm_107 env (175, 0, 0, 0, 0) 176 := zi_aload_n (by decide +kernel : decode zY_107.2.1 175 = .ok (.aload_n 0, 1)) rfl
theorem zf_zm_107_88 (env : List (Nat × Nat)) : zI9 107 zY_107 zm_107 env (176, 2, 3, 0, 0) 177 := zi_iconst (by decide +kernel : decode zY_107.2.1 176 = .ok (.iconst 3, 1)) (by decide +kernel)
theorem zf_zm_107_89 (env : List (Nat × Nat)) : zI9 107 zY_107 zm_107 env (177, 12, 0, 0, 0) 179 := zi_newI (by decide +kernel : decode zY_107.2.1 177 = .ok (.newarray .int, 2)) (zw_T zwd_16) rfl rfl (by decide) rfl
theorem zf_zm_107_90 (env : List (Nat × Nat)) : zI9 107 zY_107 zm_107 env (179, 4, 13, 30, 2) 182 := zi_putfF (i := 86) (N := 38) (C := "TransportPairModel$Book") (ref := "TransportPairModel$Book") (T := zF_13) (by decide +kernel : decode zY_107.2.1 179 = .ok (.putfield 86, 3)) rfl zuw_13 zFt_13 zFn_13 (by decide) (zw_T zwd_560) rfl rfl rfl rfl (ty := .array .int) (by decide +kernel) (Or.inr ⟨_, rfl⟩)
theorem zf_zm_107_91 (env : List (Nat × Nat)) : zI9 107 zY_107 zm_107 env (182, 0, 0, 0, 0) 183 := zi_aload_n (by decide +kernel : decode zY_107.2.1 182 = .ok (.aload_n 0, 1)) rfl
theorem zf_zm_107_92 (env : List (Nat × Nat)) : zI9 107 zY_107 zm_107 env (183, 2, 195, 0, 0) 186 := zi_sipush (by decide +kernel : decode zY_107.2.1 183 = .ok (.sipush 195, 3)) (by decide +kernel)
theorem zf_zm_107_93 (env : List (Nat × Nat)) : zI9 107 zY_107 zm_107 env (186, 12, 1, 3, 0) 188 := zi_newL (by decide +kernel : decode zY_107.2.1 186 = .ok (.newarray .long, 2)) (zw_T zwd_13) rfl rfl
theorem zf_zm_107_94 (env : List (Nat × Nat)) : zI9 107 zY_107 zm_107 env (188, 4, 13, 31, 2) 191 := zi_putfF (i := 89) (N := 38) (C := "TransportPairModel$Book") (ref := "TransportPairModel$Book") (T := zF_13) (by decide +kernel : decode zY_107.2.1 188 = .ok (.putfield 89, 3)) rfl zuw_13 zFt_13 zFn_13 (by decide) (zw_T zwd_561) rfl rfl rfl rfl (ty := .array .long) (by decide +kernel) (Or.inr ⟨_, rfl⟩)
theorem zf_zm_107_95 (env : List (Nat × Nat)) : zI9 107 zY_107 zm_107 env (191, 0, 0, 0, 0) 192 := zi_aload_n (by decide +kernel : decode zY_107.2.1 191 = .ok (.aload_n 0, 1)) rfl
theorem zf_zm_107_96 (env : List (Nat × Nat)) : zI9 107 zY_107 zm_107 env (192, 2, 195, 0, 0) 195 := zi_sipush (by decide +kernel : decode zY_107.2.1 192 = .ok (.sipush 195, 3)) (by decide +kernel)
theorem zf_zm_107_97 (env : List (Nat × Nat)) : zI9 107 zY_107 zm_107 env (195, 12, 1, 3, 0) 197 := zi_newL (by decide +kernel : decode zY_107.2.1 195 = .ok (.newarray .long, 2)) (zw_T zwd_13) rfl rfl
theorem zf_zm_107_98 (env : List (Nat × Nat)) : zI9 107 zY_107 zm_107 env (197, 4, 13, 32, 2) 200 := zi_putfF (i := 92) (N := 38) (C := "TransportPairModel$Book") (ref := "TransportPairModel$Book") (T := zF_13) (by decide +kernel : decode zY_107.2.1 197 = .ok (.putfield 92, 3)) rfl zuw_13 zFt_13 zFn_13 (by decide) (zw_T zwd_562) rfl rfl rfl rfl (ty := .array .long) (by decide +kernel) (Or.inr ⟨_, rfl⟩)
theorem zf_zm_107_99 (env : List (Nat × Nat)) : zI9 107 zY_107 zm_107 env (200, 0, 0, 0, 0) 201 := zi_aload_n (by decide +kernel : decode zY_107.2.1 200 = .ok (.aload_n 0, 1)) rfl
theorem zf_zm_107_100 (env : List (Nat × Nat)) : zI9 107 zY_107 zm_107 env (201, 2, 3, 0, 0) 202 := zi_iconst (by decide +kernel : decode zY_107.2.1 201 = .ok (.iconst 3, 1)) (by decide +kernel)
theorem zf_zm_107_101 (env : List (Nat × Nat)) : zI9 107 zY_107 zm_107 env (202, 12, 1, 3, 0) 204 := zi_newL (by decide +kernel : decode zY_107.2.1 202 = .ok (.newarray .long, 2)) (zw_T zwd_13) rfl rfl
theorem zf_zm_107_102 (env : List (Nat × Nat)) : zI9 107 zY_107 zm_107 env (204, 4, 13, 33, 2) 207 := zi_putfF (i := 95) (N := 38) (C := "TransportPairModel$Book") (ref := "TransportPairModel$Book") (T := zF_13) (by decide +kernel : decode zY_107.2.1 204 = .ok (.putfield 95, 3)) rfl zuw_13 zFt_13 zFn_13 (by decide) (zw_T zwd_563) rfl rfl rfl rfl (ty := .array .long) (by decide +kernel) (Or.inr ⟨_, rfl⟩)
theorem zf_zm_107_103 (env : List (Nat × Nat)) : zI9 107 zY_107 zm_107 env (207, 0, 0, 0, 0) 208 := zi_aload_n (by decide +kernel : decode zY_107.2.1 207 = .ok (.aload_n 0, 1)) rfl
theorem zf_zm_107_104 (env : List (Nat × Nat)) : zI9 107 zY_107 zm_107 env (208, 2, 3, 0, 0) 209 := zi_iconst (by decide +kernel : decode zY_107.2.1 208 = .ok (.iconst 3, 1)) (by decide +kernel)
theorem zf_zm_107_105 (env : List (Nat × Nat)) : zI9 107 zY_107 zm_107 env (209, 12, 0, 0, 0) 211 := zi_newI (by decide +kernel : decode zY_107.2.1 209 = .ok (.newarray .int, 2)) (zw_T zwd_16) rfl rfl (by decide) rfl
theorem zf_zm_107_106 (env : List (Nat × Nat)) : zI9 107 zY_107 zm_107 env (211, 4, 13, 34, 2) 214 := zi_putfF (i := 98) (N := 38) (C := "TransportPairModel$Book") (ref := "TransportPairModel$Book") (T := zF_13) (by decide +kernel : decode zY_107.2.1 211 = .ok (.putfield 98, 3)) rfl zuw_13 zFt_13 zFn_13 (by decide) (zw_T zwd_564) rfl rfl rfl rfl (ty := .array .int) (by decide +kernel) (Or.inr ⟨_, rfl⟩)
theorem zf_zm_107_107 (env : List (Nat × Nat)) : zI9 107 zY_107 zm_107 env (214, 0, 0, 0, 0) 215 := zi_aload_n (by decide +kernel : decode zY_107.2.1 214 = .ok (.aload_n 0, 1)) rfl
theorem zf_zm_107_108 (env : List (Nat × Nat)) : zI9 107 zY_107 zm_107 env (215, 2, 3, 0, 0) 216 := zi_iconst (by decide +kernel : decode zY_107.2.1 215 = .ok (.iconst 3, 1)) (by decide +kernel)
theorem zf_zm_107_109 (env : List (Nat × Nat)) : zI9 107 zY_107 zm_107 env (216, 12, 0, 0, 0) 218 := zi_newI (by decide +kernel : decode zY_107.2.1 216 = .ok (.newarray .int, 2)) (zw_T zwd_16) rfl rfl (by decide) rfl
theorem zf_zm_107_110 (env : List (Nat × Nat)) : zI9 107 zY_107 zm_107 env (218, 4, 13, 35, 2) 221 := zi_putfF (i := 101) (N := 38) (C := "TransportPairModel$Book") (ref := "TransportPairModel$Book") (T := zF_13) (by decide +kernel : decode zY_107.2.1 218 = .ok (.putfield 101, 3)) rfl zuw_13 zFt_13 zFn_13 (by decide) (zw_T zwd_565) rfl rfl rfl rfl (ty := .array .int) (by decide +kernel) (Or.inr ⟨_, rfl⟩)
theorem zf_zm_107_111 (env : List (Nat × Nat)) : zI9 107 zY_107 zm_107 env (221, 0, 0, 0, 0) 222 := zi_aload_n (by decide +kernel : decode zY_107.2.1 221 = .ok (.aload_n 0, 1)) rfl
theorem zf_zm_107_112 (env : List (Nat × Nat)) : zI9 107 zY_107 zm_107 env (222, 2, 3, 0, 0) 223 := zi_iconst (by decide +kernel : decode zY_107.2.1 222 = .ok (.iconst 3, 1)) (by decide +kernel)
theorem zf_zm_107_113 (env : List (Nat × Nat)) : zI9 107 zY_107 zm_107 env (223, 12, 0, 0, 0) 225 := zi_newI (by decide +kernel : decode zY_107.2.1 223 = .ok (.newarray .int, 2)) (zw_T zwd_16) rfl rfl (by decide) rfl
theorem zf_zm_107_114 (env : List (Nat × Nat)) : zI9 107 zY_107 zm_107 env (225, 4, 13, 36, 2) 228 := zi_putfF (i := 104) (N := 38) (C := "TransportPairModel$Book") (ref := "TransportPairModel$Book") (T := zF_13) (by decide +kernel : decode zY_107.2.1 225 = .ok (.putfield 104, 3)) rfl zuw_13 zFt_13 zFn_13 (by decide) (zw_T zwd_566) rfl rfl rfl rfl (ty := .array .int) (by decide +kernel) (Or.inr ⟨_, rfl⟩)
theorem zf_zm_107_115 (env : List (Nat × Nat)) : zI9 107 zY_107 zm_107 env (228, 0, 0, 0, 0) 229 := zi_aload_n (by decide +kernel : decode zY_107.2.1 228 = .ok (.aload_n 0, 1)) rfl
theorem zf_zm_107_116 (env : List (Nat × Nat)) : zI9 107 zY_107 zm_107 env (229, 2, 3, 0, 0) 230 := zi_iconst (by decide +kernel : decode zY_107.2.1 229 = .ok (.iconst 3, 1)) (by decide +kernel)
theorem zf_zm_107_117 (env : List (Nat × Nat)) : zI9 107 zY_107 zm_107 env (230, 12, 0, 2, 0) 232 := zi_newI (by decide +kernel : decode zY_107.2.1 230 = .ok (.newarray .boolean, 2)) (zw_T zwd_43) rfl rfl (by decide) rfl
theorem zf_zm_107_118 (env : List (Nat × Nat)) : zI9 107 zY_107 zm_107 env (232, 4, 13, 37, 2) 235 := zi_putfF (i := 107) (N := 38) (C := "TransportPairModel$Book") (ref := "TransportPairModel$Book") (T := zF_13) (by decide +kernel : decode zY_107.2.1 232 = .ok (.putfield 107, 3)) rfl zuw_13 zFt_13 zFn_13 (by decide) (zw_T zwd_567) rfl rfl rfl rfl (ty := .array .boolean) (by decide +kernel) (Or.inr ⟨_, rfl⟩)
theorem zf_zm_107_119 (env : List (Nat × Nat)) : zI9 107 zY_107 zm_107 env (235, 2, 0, 0, 0) 236 := zi_iconst (by decide +kernel : decode zY_107.2.1 235 = .ok (.iconst 0, 1)) (by decide +kernel)
theorem zf_zm_107_120 (env : List (Nat × Nat)) : zI9 107 zY_107 zm_107 env (236, 10, 1, 0, 0) 237 := zi_istore_n (by decide +kernel : decode zY_107.2.1 236 = .ok (.istore_n 1, 1)) rfl (by decide)
theorem zf_zm_107_121 (env : List (Nat × Nat)) : zI9 107 zY_107 zm_107 env (237, 63, 1, 0, 0) 238 := zi_iload_n (by decide +kernel : decode zY_107.2.1 237 = .ok (.iload_n 1, 1)) rfl
theorem zf_zm_107_122 (env : List (Nat × Nat)) : zI9 107 zY_107 zm_107 env (238, 2, 3, 0, 0) 239 := zi_iconst (by decide +kernel : decode zY_107.2.1 238 = .ok (.iconst 3, 1)) (by decide +kernel)
theorem zf_zm_107_123 (env : List (Nat × Nat)) : zI9 107 zY_107 zm_107 env (239, 28, 136, 0, 0) 242 := zi_icmp_ge (off := 23) (t := 262) (by decide +kernel : decode zY_107.2.1 239 = .ok (.if_icmp .ge 23, 3)) (by decide) (by decide +kernel)
theorem zf_zm_107_124 (env : List (Nat × Nat)) : zI9 107 zY_107 zm_107 env (242, 0, 0, 0, 0) 243 := zi_aload_n (by decide +kernel : decode zY_107.2.1 242 = .ok (.aload_n 0, 1)) rfl
theorem zf_zm_107_125 (env : List (Nat × Nat)) : zI9 107 zY_107 zm_107 env (243, 1, 13, 12, 2) 246 := zi_getf (i := 41) (N := 38) (C := "TransportPairModel$Book") (ref := "TransportPairModel$Book") (T := zF_13) (by decide +kernel : decode zY_107.2.1 243 = .ok (.getfield 41, 3)) rfl zuw_13 (by decide) (zw_T zwd_545) rfl
theorem zf_zm_107_126 (env : List (Nat × Nat)) : zI9 107 zY_107 zm_107 env (246, 63, 1, 0, 0) 247 := zi_iload_n (by decide +kernel : decode zY_107.2.1 246 = .ok (.iload_n 1, 1)) rfl
theorem zf_zm_107_127 (env : List (Nat × Nat)) : zI9 107 zY_107 zm_107 env (247, 2, 4294967295, 0, 0) 248 := zi_iconst (by decide +kernel : decode zY_107.2.1 247 = .ok (.iconst (-1), 1)) (by decide +kernel)
theorem zf_zm_107_128 (env : List (Nat × Nat)) : zI9 107 zY_107 zm_107 env (248, 32, 0, 0, 0) 249 := zi_iast (by decide +kernel : decode zY_107.2.1 248 = .ok (.iastore, 1))
theorem zf_zm_107_129 (env : List (Nat × Nat)) : zI9 107 zY_107 zm_107 env (249, 0, 0, 0, 0) 250 := zi_aload_n (by decide +kernel : decode zY_107.2.1 249 = .ok (.aload_n 0, 1)) rfl
theorem zf_zm_107_130 (env : List (Nat × Nat)) : zI9 107 zY_107 zm_107 env (250, 1, 13, 13, 2) 253 := zi_getf (i := 44) (N := 38) (C := "TransportPairModel$Book") (ref := "TransportPairModel$Book") (T := zF_13) (by decide +kernel : decode zY_107.2.1 250 = .ok (.getfield 44, 3)) rfl zuw_13 (by decide) (zw_T zwd_546) rfl
theorem zf_zm_107_131 (env : List (Nat × Nat)) : zI9 107 zY_107 zm_107 env (253, 63, 1, 0, 0) 254 := zi_iload_n (by decide +kernel : decode zY_107.2.1 253 = .ok (.iload_n 1, 1)) rfl
theorem zf_zm_107_132 (env : List (Nat × Nat)) : zI9 107 zY_107 zm_107 env (254, 2, 4294967295, 0, 0) 255 := zi_iconst (by decide +kernel : decode zY_107.2.1 254 = .ok (.iconst (-1), 1)) (by decide +kernel)
theorem zf_zm_107_133 (env : List (Nat × Nat)) : zI9 107 zY_107 zm_107 env (255, 32, 0, 0, 0) 256 := zi_iast (by decide +kernel : decode zY_107.2.1 255 = .ok (.iastore, 1))
theorem zf_zm_107_134 (env : List (Nat × Nat)) : zI9 107 zY_107 zm_107 env (256, 35, 1, 1, 0) 259 := zi_iinc (by decide +kernel : decode zY_107.2.1 256 = .ok (.iinc 1 1, 3)) (by decide +kernel) (by decide)
theorem zf_zm_107_135 (env : List (Nat × Nat)) : zI9 107 zY_107 zm_107 env (259, 7, 121, 0, 0) 262 := zi_goto (off := (-22)) (t := 237) (by decide +kernel : decode zY_107.2.1 259 = .ok (.goto (-22), 3)) (by decide) (by decide +kernel)
theorem zf_zm_107_136 (env : List (Nat × Nat)) : zR9 107 env (262, 21, 0, 0, 0) := zi_vret (by decide +kernel : decode (zYf 107).2.1 262 = .ok (.return_, 1)) rfl
set_option maxRecDepth 100000 in
theorem zc_zm_107 (env : List (Nat × Nat)) : zcode zX (z_QF zEX zcl zft) (z_zm zEX zX zWL zcl zft zYf) zYf zW zET zcl zft (zGv env) 107 zm_107 zm_107.1 := ⟨Or.inl ⟨1, zf_zm_107_0 env, zpc_c⟩,
  Or.inl ⟨4, zf_zm_107_1 env, zpc_c⟩,
  Or.inl ⟨5, zf_zm_107_2 env, zpc_c⟩,
  Or.inl ⟨6, zf_zm_107_3 env, zpc_c⟩,
  Or.inl ⟨8, zf_zm_107_4 env, zpc_c⟩,
  Or.inl ⟨11, zf_zm_107_5 env, zpc_c⟩,
  Or.inl ⟨12, zf_zm_107_6 env, zpc_c⟩,
  Or.inl ⟨15, zf_zm_107_7 env, zpc_c⟩,
  Or.inl ⟨17, zf_zm_107_8 env, zpc_c⟩,
  Or.inl ⟨20, zf_zm_107_9 env, zpc_c⟩,
  Or.inl ⟨21, zf_zm_107_10 env, zpc_c⟩,
  Or.inl ⟨24, zf_zm_107_11 env, zpc_c⟩,
  Or.inl ⟨26, zf_zm_107_12 env, zpc_c⟩,
  Or.inl ⟨29, zf_zm_107_13 env, zpc_c⟩,
  Or.inl ⟨30, zf_zm_107_14 env, zpc_c⟩,
  Or.inl ⟨33, zf_zm_107_15 env, zpc_c⟩,
  Or.inl ⟨35, zf_zm_107_16 env, zpc_c⟩,
  Or.inl ⟨38, zf_zm_107_17 env, zpc_c⟩,
  Or.inl ⟨39, zf_zm_107_18 env, zpc_c⟩,
  Or.inl ⟨42, zf_zm_107_19 env, zpc_c⟩,
  Or.inl ⟨44, zf_zm_107_20 env, zpc_c⟩,
  Or.inl ⟨47, zf_zm_107_21 env, zpc_c⟩,
  Or.inl ⟨48, zf_zm_107_22 env, zpc_c⟩,
  Or.inl ⟨51, zf_zm_107_23 env, zpc_c⟩,
  Or.inl ⟨53, zf_zm_107_24 env, zpc_c⟩,
  Or.inl ⟨56, zf_zm_107_25 env, zpc_c⟩,
  Or.inl ⟨57, zf_zm_107_26 env, zpc_c⟩,
  Or.inl ⟨60, zf_zm_107_27 env, zpc_c⟩,
  Or.inl ⟨62, zf_zm_107_28 env, zpc_c⟩,
  Or.inl ⟨65, zf_zm_107_29 env, zpc_c⟩,
  Or.inl ⟨66, zf_zm_107_30 env, zpc_c⟩,
  Or.inl ⟨67, zf_zm_107_31 env, zpc_c⟩,
  Or.inl ⟨69, zf_zm_107_32 env, zpc_c⟩,
  Or.inl ⟨72, zf_zm_107_33 env, zpc_c⟩,
  Or.inl ⟨73, zf_zm_107_34 env, zpc_c⟩,
  Or.inl ⟨74, zf_zm_107_35 env, zpc_c⟩,
  Or.inl ⟨76, zf_zm_107_36 env, zpc_c⟩,
  Or.inl ⟨79, zf_zm_107_37 env, zpc_c⟩,
  Or.inl ⟨80, zf_zm_107_38 env, zpc_c⟩,
  Or.inl ⟨81, zf_zm_107_39 env, zpc_c⟩,
  Or.inl ⟨83, zf_zm_107_40 env, zpc_c⟩,
  Or.inl ⟨86, zf_zm_107_41 env, zpc_c⟩,
  Or.inl ⟨87, zf_zm_107_42 env, zpc_c⟩,
  Or.inl ⟨88, zf_zm_107_43 env, zpc_c⟩,
  Or.inl ⟨90, zf_zm_107_44 env, zpc_c⟩,
  Or.inl ⟨93, zf_zm_107_45 env, zpc_c⟩,
  Or.inl ⟨94, zf_zm_107_46 env, zpc_c⟩,
  Or.inl ⟨97, zf_zm_107_47 env, zpc_c⟩,
  Or.inl ⟨99, zf_zm_107_48 env, zpc_c⟩,
  Or.inl ⟨102, zf_zm_107_49 env, zpc_c⟩,
  Or.inl ⟨103, zf_zm_107_50 env, zpc_c⟩,
  Or.inl ⟨105, zf_zm_107_51 env, zpc_c⟩,
  Or.inl ⟨107, zf_zm_107_52 env, zpc_c⟩,
  Or.inl ⟨110, zf_zm_107_53 env, zpc_c⟩,
  Or.inl ⟨111, zf_zm_107_54 env, zpc_c⟩,
  Or.inl ⟨113, zf_zm_107_55 env, zpc_c⟩,
  Or.inl ⟨115, zf_zm_107_56 env, zpc_c⟩,
  Or.inl ⟨118, zf_zm_107_57 env, zpc_c⟩,
  Or.inl ⟨119, zf_zm_107_58 env, zpc_c⟩,
  Or.inl ⟨122, zf_zm_107_59 env, zpc_c⟩,
  Or.inl ⟨125, zf_zm_107_60 env, zpc_c⟩,
  Or.inl ⟨126, zf_zm_107_61 env, zpc_c⟩,
  Or.inl ⟨129, zf_zm_107_62 env, zpc_c⟩,
  Or.inl ⟨132, zf_zm_107_63 env, zpc_c⟩,
  Or.inl ⟨133, zf_zm_107_64 env, zpc_c⟩,
  Or.inl ⟨134, zf_zm_107_65 env, zpc_c⟩,
  Or.inl ⟨137, zf_zm_107_66 env, zpc_c⟩,
  Or.inl ⟨138, zf_zm_107_67 env, zpc_c⟩,
  Or.inl ⟨139, zf_zm_107_68 env, zpc_c⟩,
  Or.inl ⟨142, zf_zm_107_69 env, zpc_c⟩,
  Or.inl ⟨143, zf_zm_107_70 env, zpc_c⟩,
  Or.inl ⟨146, zf_zm_107_71 env, zpc_c⟩,
  Or.inl ⟨149, zf_zm_107_72 env, zpc_c⟩,
  Or.inl ⟨150, zf_zm_107_73 env, zpc_c⟩,
  Or.inl ⟨151, zf_zm_107_74 env, zpc_c⟩,
  Or.inl ⟨154, zf_zm_107_75 env, zpc_c⟩,
  Or.inl ⟨155, zf_zm_107_76 env, zpc_c⟩,
  Or.inl ⟨156, zf_zm_107_77 env, zpc_c⟩,
  Or.inl ⟨159, zf_zm_107_78 env, zpc_c⟩,
  Or.inl ⟨160, zf_zm_107_79 env, zpc_c⟩,
  Or.inl ⟨162, zf_zm_107_80 env, zpc_c⟩,
  Or.inl ⟨164, zf_zm_107_81 env, zpc_c⟩,
  Or.inl ⟨167, zf_zm_107_82 env, zpc_c⟩,
  Or.inl ⟨168, zf_zm_107_83 env, zpc_c⟩,
  Or.inl ⟨170, zf_zm_107_84 env, zpc_c⟩,
  Or.inl ⟨172, zf_zm_107_85 env, zpc_c⟩,
  Or.inl ⟨175, zf_zm_107_86 env, zpc_c⟩,
  Or.inl ⟨176, zf_zm_107_87 env, zpc_c⟩,
  Or.inl ⟨177, zf_zm_107_88 env, zpc_c⟩,
  Or.inl ⟨179, zf_zm_107_89 env, zpc_c⟩,
  Or.inl ⟨182, zf_zm_107_90 env, zpc_c⟩,
  Or.inl ⟨183, zf_zm_107_91 env, zpc_c⟩,
  Or.inl ⟨186, zf_zm_107_92 env, zpc_c⟩,
  Or.inl ⟨188, zf_zm_107_93 env, zpc_c⟩,
  Or.inl ⟨191, zf_zm_107_94 env, zpc_c⟩,
  Or.inl ⟨192, zf_zm_107_95 env, zpc_c⟩,
  Or.inl ⟨195, zf_zm_107_96 env, zpc_c⟩,
  Or.inl ⟨197, zf_zm_107_97 env, zpc_c⟩,
  Or.inl ⟨200, zf_zm_107_98 env, zpc_c⟩,
  Or.inl ⟨201, zf_zm_107_99 env, zpc_c⟩,
  Or.inl ⟨202, zf_zm_107_100 env, zpc_c⟩,
  Or.inl ⟨204, zf_zm_107_101 env, zpc_c⟩,
  Or.inl ⟨207, zf_zm_107_102 env, zpc_c⟩,
  Or.inl ⟨208, zf_zm_107_103 env, zpc_c⟩,
  Or.inl ⟨209, zf_zm_107_104 env, zpc_c⟩,
  Or.inl ⟨211, zf_zm_107_105 env, zpc_c⟩,
  Or.inl ⟨214, zf_zm_107_106 env, zpc_c⟩,
  Or.inl ⟨215, zf_zm_107_107 env, zpc_c⟩,
  Or.inl ⟨216, zf_zm_107_108 env, zpc_c⟩,
  Or.inl ⟨218, zf_zm_107_109 env, zpc_c⟩,
  Or.inl ⟨221, zf_zm_107_110 env, zpc_c⟩,
  Or.inl ⟨222, zf_zm_107_111 env, zpc_c⟩,
  Or.inl ⟨223, zf_zm_107_112 env, zpc_c⟩,
  Or.inl ⟨225, zf_zm_107_113 env, zpc_c⟩,
  Or.inl ⟨228, zf_zm_107_114 env, zpc_c⟩,
  Or.inl ⟨229, zf_zm_107_115 env, zpc_c⟩,
  Or.inl ⟨230, zf_zm_107_116 env, zpc_c⟩,
  Or.inl ⟨232, zf_zm_107_117 env, zpc_c⟩,
  Or.inl ⟨235, zf_zm_107_118 env, zpc_c⟩,
  Or.inl ⟨236, zf_zm_107_119 env, zpc_c⟩,
  Or.inl ⟨237, zf_zm_107_120 env, zpc_c⟩,
  Or.inl ⟨238, zf_zm_107_121 env, zpc_c⟩,
  Or.inl ⟨239, zf_zm_107_122 env, zpc_c⟩,
  Or.inl ⟨242, zf_zm_107_123 env, zpc_c⟩,
  Or.inl ⟨243, zf_zm_107_124 env, zpc_c⟩,
  Or.inl ⟨246, zf_zm_107_125 env, zpc_c⟩,
  Or.inl ⟨247, zf_zm_107_126 env, zpc_c⟩,
  Or.inl ⟨248, zf_zm_107_127 env, zpc_c⟩,
  Or.inl ⟨249, zf_zm_107_128 env, zpc_c⟩,
  Or.inl ⟨250, zf_zm_107_129 env, zpc_c⟩,
  Or.inl ⟨253, zf_zm_107_130 env, zpc_c⟩,
  Or.inl ⟨254, zf_zm_107_131 env, zpc_c⟩,
  Or.inl ⟨255, zf_zm_107_132 env, zpc_c⟩,
  Or.inl ⟨256, zf_zm_107_133 env, zpc_c⟩,
  Or.inl ⟨259, zf_zm_107_134 env, zpc_c⟩,
  Or.inl ⟨262, zf_zm_107_135 env, zpc_c⟩,
  Or.inr (Or.inl (zf_zm_107_136 env)), trivial⟩
theorem zf_zm_108_0 (env : List (Nat × Nat)) : zI9 108 zY_108 zm_108 env (0, 63, 0, 0, 0) 1 := zi_iload_n (by decide +kernel : decode zY_108.2.1 0 = .ok (.iload_n 0, 1)) rfl
theorem zf_zm_108_1 (env : List (Nat × Nat)) : zI9 108 zY_108 zm_108 env (1, 63, 1, 0, 0) 2 := zi_iload_n (by decide +kernel : decode zY_108.2.1 1 = .ok (.iload_n 1, 1)) rfl
theorem zf_zm_108_2 (env : List (Nat × Nat)) : zI9 108 zY_108 zm_108 env (2, 27, 5, 0, 0) 5 := zi_icmp_le (off := 7) (t := 9) (by decide +kernel : decode zY_108.2.1 2 = .ok (.if_icmp .le 7, 3)) (by decide) (by decide +kernel)
theorem zf_zm_108_3 (env : List (Nat × Nat)) : zI9 108 zY_108 zm_108 env (5, 63, 0, 0, 0) 6 := zi_iload_n (by decide +kernel : decode zY_108.2.1 5 = .ok (.iload_n 0, 1)) rfl
theorem zf_zm_108_4 (env : List (Nat × Nat)) : zI9 108 zY_108 zm_108 env (6, 7, 6, 0, 0) 9 := zi_goto (off := 4) (t := 10) (by decide +kernel : decode zY_108.2.1 6 = .ok (.goto 4, 3)) (by decide) (by decide +kernel)
theorem zf_zm_108_5 (env : List (Nat × Nat)) : zI9 108 zY_108 zm_108 env (9, 99, 0, 0, 0) 10 := zi_none
theorem zf_zm_108_6 (env : List (Nat × Nat)) : zR9 108 env (10, 11, 0, 0, 0) := zi_iret (by decide +kernel : decode (zYf 108).2.1 10 = .ok (.ireturn, 1)) rfl
set_option maxRecDepth 100000 in
theorem zc_zm_108 (env : List (Nat × Nat)) : zcode zX (z_QF zEX zcl zft) (z_zm zEX zX zWL zcl zft zYf) zYf zW zET zcl zft (zGv env) 108 zm_108 zm_108.1 := ⟨Or.inl ⟨1, zf_zm_108_0 env, zpc_c⟩,
  Or.inl ⟨2, zf_zm_108_1 env, zpc_c⟩,
  Or.inl ⟨5, zf_zm_108_2 env, zpc_c⟩,
  Or.inl ⟨6, zf_zm_108_3 env, zpc_c⟩,
  Or.inl ⟨9, zf_zm_108_4 env, zpc_c⟩,
  Or.inl ⟨10, zf_zm_108_5 env, zpc_c⟩,
  Or.inr (Or.inl (zf_zm_108_6 env)), trivial⟩
theorem zf_zm_109_0 (env : List (Nat × Nat)) : zI9 109 zY_109 zm_109 env (0, 2, 0, 0, 0) 1 := zi_iconst (by decide +kernel : decode zY_109.2.1 0 = .ok (.iconst 0, 1)) (by decide +kernel)
theorem zf_zm_109_1 (env : List (Nat × Nat)) : zI9 109 zY_109 zm_109 env (1, 10, 1, 0, 0) 2 := zi_istore_n (by decide +kernel : decode zY_109.2.1 1 = .ok (.istore_n 1, 1)) rfl (by decide)
theorem zf_zm_109_2 (env : List (Nat × Nat)) : zI9 109 zY_109 zm_109 env (2, 2, 0, 0, 0) 3 := zi_iconst (by decide +kernel : decode zY_109.2.1 2 = .ok (.iconst 0, 1)) (by decide +kernel)
theorem zf_zm_109_3 (env : List (Nat × Nat)) : zI9 109 zY_109 zm_109 env (3, 10, 2, 0, 0) 4 := zi_istore_n (by decide +kernel : decode zY_109.2.1 3 = .ok (.istore_n 2, 1)) rfl (by decide)
theorem zf_zm_109_4 (env : List (Nat × Nat)) : zI9 109 zY_109 zm_109 env (4, 63, 2, 0, 0) 5 := zi_iload_n (by decide +kernel : decode zY_109.2.1 4 = .ok (.iload_n 2, 1)) rfl
theorem zf_zm_109_5 (env : List (Nat × Nat)) : zI9 109 zY_109 zm_109 env (5, 2, 3, 0, 0) 6 := zi_iconst (by decide +kernel : decode zY_109.2.1 5 = .ok (.iconst 3, 1)) (by decide +kernel)
theorem zf_zm_109_6 (env : List (Nat × Nat)) : zI9 109 zY_109 zm_109 env (6, 28, 21, 0, 0) 9 := zi_icmp_ge (off := 75) (t := 81) (by decide +kernel : decode zY_109.2.1 6 = .ok (.if_icmp .ge 75, 3)) (by decide) (by decide +kernel)
theorem zf_zm_109_7 (env : List (Nat × Nat)) : zI9 109 zY_109 zm_109 env (9, 0, 0, 0, 0) 10 := zi_aload_n (by decide +kernel : decode zY_109.2.1 9 = .ok (.aload_n 0, 1)) rfl
theorem zf_zm_109_8 (env : List (Nat × Nat)) : zI9 109 zY_109 zm_109 env (10, 1, 13, 10, 2) 13 := zi_getf (i := 35) (N := 38) (C := "TransportPairModel$Book") (ref := "TransportPairModel$Book") (T := zF_13) (by decide +kernel : decode zY_109.2.1 10 = .ok (.getfield 35, 3)) rfl zuw_13 (by decide) (zw_T zwd_543) rfl
theorem zf_zm_109_9 (env : List (Nat × Nat)) : zI9 109 zY_109 zm_109 env (13, 63, 2, 0, 0) 14 := zi_iload_n (by decide +kernel : decode zY_109.2.1 13 = .ok (.iload_n 2, 1)) rfl
theorem zf_zm_109_10 (env : List (Nat × Nat)) : zI9 109 zY_109 zm_109 env (14, 8, 0, 0, 0) 15 := zi_iald (zscr_ok (by decide +kernel : decode zY_109.2.1 14 = .ok (.iaload, 1))) (by decide +kernel : decode zY_109.2.1 14 = .ok (.iaload, 1))
theorem zf_zm_109_11 (env : List (Nat × Nat)) : zI9 109 zY_109 zm_109 env (15, 10, 3, 0, 0) 16 := zi_istore_n (by decide +kernel : decode zY_109.2.1 15 = .ok (.istore_n 3, 1)) rfl (by decide)
theorem zf_zm_109_12 (env : List (Nat × Nat)) : zI9 109 zY_109 zm_109 env (16, 63, 3, 0, 0) 17 := zi_iload_n (by decide +kernel : decode zY_109.2.1 16 = .ok (.iload_n 3, 1)) rfl
theorem zf_zm_109_13 (env : List (Nat × Nat)) : zI9 109 zY_109 zm_109 env (17, 0, 0, 0, 0) 18 := zi_aload_n (by decide +kernel : decode zY_109.2.1 17 = .ok (.aload_n 0, 1)) rfl
theorem zf_zm_109_14 (env : List (Nat × Nat)) : zI9 109 zY_109 zm_109 env (18, 1, 13, 3, 2) 21 := zi_getf (i := 9) (N := 38) (C := "TransportPairModel$Book") (ref := "TransportPairModel$Book") (T := zF_13) (by decide +kernel : decode zY_109.2.1 18 = .ok (.getfield 9, 3)) rfl zuw_13 (by decide) (zw_T zwd_536) rfl
theorem zf_zm_109_15 (env : List (Nat × Nat)) : zI9 109 zY_109 zm_109 env (21, 63, 2, 0, 0) 22 := zi_iload_n (by decide +kernel : decode zY_109.2.1 21 = .ok (.iload_n 2, 1)) rfl
theorem zf_zm_109_16 (env : List (Nat × Nat)) : zI9 109 zY_109 zm_109 env (22, 8, 0, 0, 0) 23 := zi_iald (zscr_ok (by decide +kernel : decode zY_109.2.1 22 = .ok (.iaload, 1))) (by decide +kernel : decode zY_109.2.1 22 = .ok (.iaload, 1))
theorem zf_zm_109_17 (env : List (Nat × Nat)) : zI9 109 zY_109 zm_109 env (23, 28, 19, 0, 0) 26 := zi_icmp_ge (off := 52) (t := 75) (by decide +kernel : decode zY_109.2.1 23 = .ok (.if_icmp .ge 52, 3)) (by decide) (by decide +kernel)
theorem zf_zm_109_18 (env : List (Nat × Nat)) : zI9 109 zY_109 zm_109 env (26, 99, 0, 0, 0) 75 := zi_none
theorem zf_zm_109_19 (env : List (Nat × Nat)) : zI9 109 zY_109 zm_109 env (75, 35, 2, 1, 0) 78 := zi_iinc (by decide +kernel : decode zY_109.2.1 75 = .ok (.iinc 2 1, 3)) (by decide +kernel) (by decide)
theorem zf_zm_109_20 (env : List (Nat × Nat)) : zI9 109 zY_109 zm_109 env (78, 7, 4, 0, 0) 81 := zi_goto (off := (-74)) (t := 4) (by decide +kernel : decode zY_109.2.1 78 = .ok (.goto (-74), 3)) (by decide) (by decide +kernel)
theorem zf_zm_109_21 (env : List (Nat × Nat)) : zI9 109 zY_109 zm_109 env (81, 63, 1, 0, 0) 82 := zi_iload_n (by decide +kernel : decode zY_109.2.1 81 = .ok (.iload_n 1, 1)) rfl
theorem zf_zm_109_22 (env : List (Nat × Nat)) : zR9 109 env (82, 11, 0, 0, 0) := zi_iret (by decide +kernel : decode (zYf 109).2.1 82 = .ok (.ireturn, 1)) rfl
set_option maxRecDepth 100000 in
theorem zc_zm_109 (env : List (Nat × Nat)) : zcode zX (z_QF zEX zcl zft) (z_zm zEX zX zWL zcl zft zYf) zYf zW zET zcl zft (zGv env) 109 zm_109 zm_109.1 := ⟨Or.inl ⟨1, zf_zm_109_0 env, zpc_c⟩,
  Or.inl ⟨2, zf_zm_109_1 env, zpc_c⟩,
  Or.inl ⟨3, zf_zm_109_2 env, zpc_c⟩,
  Or.inl ⟨4, zf_zm_109_3 env, zpc_c⟩,
  Or.inl ⟨5, zf_zm_109_4 env, zpc_c⟩,
  Or.inl ⟨6, zf_zm_109_5 env, zpc_c⟩,
  Or.inl ⟨9, zf_zm_109_6 env, zpc_c⟩,
  Or.inl ⟨10, zf_zm_109_7 env, zpc_c⟩,
  Or.inl ⟨13, zf_zm_109_8 env, zpc_c⟩,
  Or.inl ⟨14, zf_zm_109_9 env, zpc_c⟩,
  Or.inl ⟨15, zf_zm_109_10 env, zpc_c⟩,
  Or.inl ⟨16, zf_zm_109_11 env, zpc_c⟩,
  Or.inl ⟨17, zf_zm_109_12 env, zpc_c⟩,
  Or.inl ⟨18, zf_zm_109_13 env, zpc_c⟩,
  Or.inl ⟨21, zf_zm_109_14 env, zpc_c⟩,
  Or.inl ⟨22, zf_zm_109_15 env, zpc_c⟩,
  Or.inl ⟨23, zf_zm_109_16 env, zpc_c⟩,
  Or.inl ⟨26, zf_zm_109_17 env, zpc_c⟩,
  Or.inl ⟨75, zf_zm_109_18 env, zpc_c⟩,
  Or.inl ⟨78, zf_zm_109_19 env, zpc_c⟩,
  Or.inl ⟨81, zf_zm_109_20 env, zpc_c⟩,
  Or.inl ⟨82, zf_zm_109_21 env, zpc_c⟩,
  Or.inr (Or.inl (zf_zm_109_22 env)), trivial⟩
theorem zf_zm_110_0 (env : List (Nat × Nat)) : zI9 110 zY_110 zm_110 env (0, 2, 0, 0, 0) 1 := zi_iconst (by decide +kernel : decode zY_110.2.1 0 = .ok (.iconst 0, 1)) (by decide +kernel)
theorem zf_zm_110_1 (env : List (Nat × Nat)) : zI9 110 zY_110 zm_110 env (1, 10, 3, 0, 0) 2 := zi_istore_n (by decide +kernel : decode zY_110.2.1 1 = .ok (.istore_n 3, 1)) rfl (by decide)
theorem zf_zm_110_2 (env : List (Nat × Nat)) : zI9 110 zY_110 zm_110 env (2, 0, 0, 0, 0) 3 := zi_aload_n (by decide +kernel : decode zY_110.2.1 2 = .ok (.aload_n 0, 1)) rfl
theorem zf_zm_110_3 (env : List (Nat × Nat)) : zI9 110 zY_110 zm_110 env (3, 1, 13, 10, 2) 6 := zi_getf (i := 35) (N := 38) (C := "TransportPairModel$Book") (ref := "TransportPairModel$Book") (T := zF_13) (by decide +kernel : decode zY_110.2.1 3 = .ok (.getfield 35, 3)) rfl zuw_13 (by decide) (zw_T zwd_543) rfl
theorem zf_zm_110_4 (env : List (Nat × Nat)) : zI9 110 zY_110 zm_110 env (6, 63, 1, 0, 0) 7 := zi_iload_n (by decide +kernel : decode zY_110.2.1 6 = .ok (.iload_n 1, 1)) rfl
theorem zf_zm_110_5 (env : List (Nat × Nat)) : zI9 110 zY_110 zm_110 env (7, 8, 0, 0, 0) 8 := zi_iald (zscr_ok (by decide +kernel : decode zY_110.2.1 7 = .ok (.iaload, 1))) (by decide +kernel : decode zY_110.2.1 7 = .ok (.iaload, 1))
theorem zf_zm_110_6 (env : List (Nat × Nat)) : zI9 110 zY_110 zm_110 env (8, 10, 4, 0, 0) 10 := zi_istore (by decide +kernel : decode zY_110.2.1 8 = .ok (.istore 4, 2)) (by decide)
theorem zf_zm_110_7 (env : List (Nat × Nat)) : zI9 110 zY_110 zm_110 env (10, 63, 4, 0, 0) 12 := zi_iload (by decide +kernel : decode zY_110.2.1 10 = .ok (.iload 4, 2))
theorem zf_zm_110_8 (env : List (Nat × Nat)) : zI9 110 zY_110 zm_110 env (12, 0, 0, 0, 0) 13 := zi_aload_n (by decide +kernel : decode zY_110.2.1 12 = .ok (.aload_n 0, 1)) rfl
theorem zf_zm_110_9 (env : List (Nat × Nat)) : zI9 110 zY_110 zm_110 env (13, 1, 13, 3, 2) 16 := zi_getf (i := 9) (N := 38) (C := "TransportPairModel$Book") (ref := "TransportPairModel$Book") (T := zF_13) (by decide +kernel : decode zY_110.2.1 13 = .ok (.getfield 9, 3)) rfl zuw_13 (by decide) (zw_T zwd_536) rfl
theorem zf_zm_110_10 (env : List (Nat × Nat)) : zI9 110 zY_110 zm_110 env (16, 63, 1, 0, 0) 17 := zi_iload_n (by decide +kernel : decode zY_110.2.1 16 = .ok (.iload_n 1, 1)) rfl
theorem zf_zm_110_11 (env : List (Nat × Nat)) : zI9 110 zY_110 zm_110 env (17, 8, 0, 0, 0) 18 := zi_iald (zscr_ok (by decide +kernel : decode zY_110.2.1 17 = .ok (.iaload, 1))) (by decide +kernel : decode zY_110.2.1 17 = .ok (.iaload, 1))
theorem zf_zm_110_12 (env : List (Nat × Nat)) : zI9 110 zY_110 zm_110 env (18, 28, 14, 0, 0) 21 := zi_icmp_ge (off := 47) (t := 65) (by decide +kernel : decode zY_110.2.1 18 = .ok (.if_icmp .ge 47, 3)) (by decide) (by decide +kernel)
theorem zf_zm_110_13 (env : List (Nat × Nat)) : zI9 110 zY_110 zm_110 env (21, 99, 0, 0, 0) 65 := zi_none
theorem zf_zm_110_14 (env : List (Nat × Nat)) : zI9 110 zY_110 zm_110 env (65, 63, 3, 0, 0) 66 := zi_iload_n (by decide +kernel : decode zY_110.2.1 65 = .ok (.iload_n 3, 1)) rfl
theorem zf_zm_110_15 (env : List (Nat × Nat)) : zR9 110 env (66, 11, 0, 0, 0) := zi_iret (by decide +kernel : decode (zYf 110).2.1 66 = .ok (.ireturn, 1)) rfl
set_option maxRecDepth 100000 in
theorem zc_zm_110 (env : List (Nat × Nat)) : zcode zX (z_QF zEX zcl zft) (z_zm zEX zX zWL zcl zft zYf) zYf zW zET zcl zft (zGv env) 110 zm_110 zm_110.1 := ⟨Or.inl ⟨1, zf_zm_110_0 env, zpc_c⟩,
  Or.inl ⟨2, zf_zm_110_1 env, zpc_c⟩,
  Or.inl ⟨3, zf_zm_110_2 env, zpc_c⟩,
  Or.inl ⟨6, zf_zm_110_3 env, zpc_c⟩,
  Or.inl ⟨7, zf_zm_110_4 env, zpc_c⟩,
  Or.inl ⟨8, zf_zm_110_5 env, zpc_c⟩,
  Or.inl ⟨10, zf_zm_110_6 env, zpc_c⟩,
  Or.inl ⟨12, zf_zm_110_7 env, zpc_c⟩,
  Or.inl ⟨13, zf_zm_110_8 env, zpc_c⟩,
  Or.inl ⟨16, zf_zm_110_9 env, zpc_c⟩,
  Or.inl ⟨17, zf_zm_110_10 env, zpc_c⟩,
  Or.inl ⟨18, zf_zm_110_11 env, zpc_c⟩,
  Or.inl ⟨21, zf_zm_110_12 env, zpc_c⟩,
  Or.inl ⟨65, zf_zm_110_13 env, zpc_c⟩,
  Or.inl ⟨66, zf_zm_110_14 env, zpc_c⟩,
  Or.inr (Or.inl (zf_zm_110_15 env)), trivial⟩
theorem zf_zm_111_0 (env : List (Nat × Nat)) : zI9 111 zY_111 zm_111 env (0, 0, 0, 0, 0) 1 := zi_aload_n (by decide +kernel : decode zY_111.2.1 0 = .ok (.aload_n 0, 1)) rfl
theorem zf_zm_111_1 (env : List (Nat × Nat)) : zI9 111 zY_111 zm_111 env (1, 1, 13, 10, 2) 4 := zi_getf (i := 35) (N := 38) (C := "TransportPairModel$Book") (ref := "TransportPairModel$Book") (T := zF_13) (by decide +kernel : decode zY_111.2.1 1 = .ok (.getfield 35, 3)) rfl zuw_13 (by decide) (zw_T zwd_543) rfl
theorem zf_zm_111_2 (env : List (Nat × Nat)) : zI9 111 zY_111 zm_111 env (4, 63, 1, 0, 0) 5 := zi_iload_n (by decide +kernel : decode zY_111.2.1 4 = .ok (.iload_n 1, 1)) rfl
theorem zf_zm_111_3 (env : List (Nat × Nat)) : zI9 111 zY_111 zm_111 env (5, 8, 0, 0, 0) 6 := zi_iald (zscr_ok (by decide +kernel : decode zY_111.2.1 5 = .ok (.iaload, 1))) (by decide +kernel : decode zY_111.2.1 5 = .ok (.iaload, 1))
theorem zf_zm_111_4 (env : List (Nat × Nat)) : zI9 111 zY_111 zm_111 env (6, 10, 2, 0, 0) 7 := zi_istore_n (by decide +kernel : decode zY_111.2.1 6 = .ok (.istore_n 2, 1)) rfl (by decide)
theorem zf_zm_111_5 (env : List (Nat × Nat)) : zI9 111 zY_111 zm_111 env (7, 63, 2, 0, 0) 8 := zi_iload_n (by decide +kernel : decode zY_111.2.1 7 = .ok (.iload_n 2, 1)) rfl
theorem zf_zm_111_6 (env : List (Nat × Nat)) : zI9 111 zY_111 zm_111 env (8, 0, 0, 0, 0) 9 := zi_aload_n (by decide +kernel : decode zY_111.2.1 8 = .ok (.aload_n 0, 1)) rfl
theorem zf_zm_111_7 (env : List (Nat × Nat)) : zI9 111 zY_111 zm_111 env (9, 1, 13, 3, 2) 12 := zi_getf (i := 9) (N := 38) (C := "TransportPairModel$Book") (ref := "TransportPairModel$Book") (T := zF_13) (by decide +kernel : decode zY_111.2.1 9 = .ok (.getfield 9, 3)) rfl zuw_13 (by decide) (zw_T zwd_536) rfl
theorem zf_zm_111_8 (env : List (Nat × Nat)) : zI9 111 zY_111 zm_111 env (12, 63, 1, 0, 0) 13 := zi_iload_n (by decide +kernel : decode zY_111.2.1 12 = .ok (.iload_n 1, 1)) rfl
theorem zf_zm_111_9 (env : List (Nat × Nat)) : zI9 111 zY_111 zm_111 env (13, 8, 0, 0, 0) 14 := zi_iald (zscr_ok (by decide +kernel : decode zY_111.2.1 13 = .ok (.iaload, 1))) (by decide +kernel : decode zY_111.2.1 13 = .ok (.iaload, 1))
theorem zf_zm_111_10 (env : List (Nat × Nat)) : zI9 111 zY_111 zm_111 env (14, 28, 12, 0, 0) 17 := zi_icmp_ge (off := 35) (t := 49) (by decide +kernel : decode zY_111.2.1 14 = .ok (.if_icmp .ge 35, 3)) (by decide) (by decide +kernel)
theorem zf_zm_111_11 (env : List (Nat × Nat)) : zI9 111 zY_111 zm_111 env (17, 99, 0, 0, 0) 49 := zi_none
theorem zf_zm_111_12 (env : List (Nat × Nat)) : zI9 111 zY_111 zm_111 env (49, 2, 4294967295, 0, 0) 50 := zi_iconst (by decide +kernel : decode zY_111.2.1 49 = .ok (.iconst (-1), 1)) (by decide +kernel)
theorem zf_zm_111_13 (env : List (Nat × Nat)) : zR9 111 env (50, 11, 0, 0, 0) := zi_iret (by decide +kernel : decode (zYf 111).2.1 50 = .ok (.ireturn, 1)) rfl
set_option maxRecDepth 100000 in
theorem zc_zm_111 (env : List (Nat × Nat)) : zcode zX (z_QF zEX zcl zft) (z_zm zEX zX zWL zcl zft zYf) zYf zW zET zcl zft (zGv env) 111 zm_111 zm_111.1 := ⟨Or.inl ⟨1, zf_zm_111_0 env, zpc_c⟩,
  Or.inl ⟨4, zf_zm_111_1 env, zpc_c⟩,
  Or.inl ⟨5, zf_zm_111_2 env, zpc_c⟩,
  Or.inl ⟨6, zf_zm_111_3 env, zpc_c⟩,
  Or.inl ⟨7, zf_zm_111_4 env, zpc_c⟩,
  Or.inl ⟨8, zf_zm_111_5 env, zpc_c⟩,
  Or.inl ⟨9, zf_zm_111_6 env, zpc_c⟩,
  Or.inl ⟨12, zf_zm_111_7 env, zpc_c⟩,
  Or.inl ⟨13, zf_zm_111_8 env, zpc_c⟩,
  Or.inl ⟨14, zf_zm_111_9 env, zpc_c⟩,
  Or.inl ⟨17, zf_zm_111_10 env, zpc_c⟩,
  Or.inl ⟨49, zf_zm_111_11 env, zpc_c⟩,
  Or.inl ⟨50, zf_zm_111_12 env, zpc_c⟩,
  Or.inr (Or.inl (zf_zm_111_13 env)), trivial⟩
theorem zf_zm_112_0 (env : List (Nat × Nat)) : zI9 112 zY_112 zm_112 env (0, 0, 0, 0, 0) 1 := zi_aload_n (by decide +kernel : decode zY_112.2.1 0 = .ok (.aload_n 0, 1)) rfl
theorem zf_zm_112_1 (env : List (Nat × Nat)) : zI9 112 zY_112 zm_112 env (1, 1, 13, 18, 0) 4 := zi_getf (i := 57) (N := 38) (C := "TransportPairModel$Book") (ref := "TransportPairModel$Book") (T := zF_13) (by decide +kernel : decode zY_112.2.1 1 = .ok (.getfield 57, 3)) rfl zuw_13 (by decide) (zw_T zwd_551) rfl
theorem zf_zm_112_2 (env : List (Nat × Nat)) : zI9 112 zY_112 zm_112 env (4, 2, 8, 0, 0) 6 := zi_bipush (by decide +kernel : decode zY_112.2.1 4 = .ok (.bipush 8, 2)) (by decide +kernel)
theorem zf_zm_112_3 (env : List (Nat × Nat)) : zI9 112 zY_112 zm_112 env (6, 42, 0, 0, 0) 7 := zi_idiv (by decide +kernel : decode zY_112.2.1 6 = .ok (.idiv, 1))
theorem zf_zm_112_4 (env : List (Nat × Nat)) : zI9 112 zY_112 zm_112 env (7, 0, 0, 0, 0) 8 := zi_aload_n (by decide +kernel : decode zY_112.2.1 7 = .ok (.aload_n 0, 1)) rfl
theorem zf_zm_112_5 (env : List (Nat × Nat)) : zI9 112 zY_112 zm_112 env (8, 1, 13, 19, 0) 11 := zi_getf (i := 61) (N := 38) (C := "TransportPairModel$Book") (ref := "TransportPairModel$Book") (T := zF_13) (by decide +kernel : decode zY_112.2.1 8 = .ok (.getfield 61, 3)) rfl zuw_13 (by decide) (zw_T zwd_552) rfl
theorem zf_zm_112_6 (env : List (Nat × Nat)) : zI9 112 zY_112 zm_112 env (11, 2, 1, 0, 0) 12 := zi_iconst (by decide +kernel : decode zY_112.2.1 11 = .ok (.iconst 1, 1)) (by decide +kernel)
theorem zf_zm_112_7 (env : List (Nat × Nat)) : zC9 112 zm_112 env (12, 66, 108, 130, 0) := zi_call (by decide +kernel) (zr_S (i := 114) zX_ok rfl (zgood_108) (by decide +kernel) (zw_T zwd_307) (zw_T zwd_568) (zw_T zwd_569) ⟨by decide +kernel, by decide +kernel, by decide +kernel⟩ (by decide +kernel : decode (zYf 112).2.1 12 = .ok (.invokestatic 114, 3)))
theorem zf_zm_112_8 (env : List (Nat × Nat)) : zI9 112 zY_112 zm_112 env (15, 9, 0, 0, 0) 16 := zi_iadd (by decide +kernel : decode zY_112.2.1 15 = .ok (.iadd, 1))
theorem zf_zm_112_9 (env : List (Nat × Nat)) : zI9 112 zY_112 zm_112 env (16, 63, 1, 0, 0) 17 := zi_iload_n (by decide +kernel : decode zY_112.2.1 16 = .ok (.iload_n 1, 1)) rfl
theorem zf_zm_112_10 (env : List (Nat × Nat)) : zI9 112 zY_112 zm_112 env (17, 5, 12, 0, 0) 20 := zi_if_eq (off := 8) (t := 25) (by decide +kernel : decode zY_112.2.1 17 = .ok (.ifCond .eq 8, 3)) (by decide) (by decide +kernel)
theorem zf_zm_112_11 (env : List (Nat × Nat)) : zI9 112 zY_112 zm_112 env (20, 99, 0, 0, 0) 25 := zi_none
theorem zf_zm_112_12 (env : List (Nat × Nat)) : zI9 112 zY_112 zm_112 env (25, 2, 0, 0, 0) 26 := zi_iconst (by decide +kernel : decode zY_112.2.1 25 = .ok (.iconst 0, 1)) (by decide +kernel)
theorem zf_zm_112_13 (env : List (Nat × Nat)) : zI9 112 zY_112 zm_112 env (26, 9, 0, 0, 0) 27 := zi_iadd (by decide +kernel : decode zY_112.2.1 26 = .ok (.iadd, 1))
theorem zf_zm_112_14 (env : List (Nat × Nat)) : zR9 112 env (27, 11, 0, 0, 0) := zi_iret (by decide +kernel : decode (zYf 112).2.1 27 = .ok (.ireturn, 1)) rfl
set_option maxRecDepth 100000 in
theorem zc_zm_112 (env : List (Nat × Nat)) : zcode zX (z_QF zEX zcl zft) (z_zm zEX zX zWL zcl zft zYf) zYf zW zET zcl zft (zGv env) 112 zm_112 zm_112.1 := ⟨Or.inl ⟨1, zf_zm_112_0 env, zpc_c⟩,
  Or.inl ⟨4, zf_zm_112_1 env, zpc_c⟩,
  Or.inl ⟨6, zf_zm_112_2 env, zpc_c⟩,
  Or.inl ⟨7, zf_zm_112_3 env, zpc_c⟩,
  Or.inl ⟨8, zf_zm_112_4 env, zpc_c⟩,
  Or.inl ⟨11, zf_zm_112_5 env, zpc_c⟩,
  Or.inl ⟨12, zf_zm_112_6 env, zpc_c⟩,
  Or.inr (Or.inr (Or.inl ⟨zf_zm_112_7 env, zpc_c⟩)),
  Or.inl ⟨16, zf_zm_112_8 env, zpc_c⟩,
  Or.inl ⟨17, zf_zm_112_9 env, zpc_c⟩,
  Or.inl ⟨20, zf_zm_112_10 env, zpc_c⟩,
  Or.inl ⟨25, zf_zm_112_11 env, zpc_c⟩,
  Or.inl ⟨26, zf_zm_112_12 env, zpc_c⟩,
  Or.inl ⟨27, zf_zm_112_13 env, zpc_c⟩,
  Or.inr (Or.inl (zf_zm_112_14 env)), trivial⟩
theorem zf_zm_113_0 (env : List (Nat × Nat)) : zI9 113 zY_113 zm_113 env (0, 2, 9, 0, 0) 2 := zi_bipush (by decide +kernel : decode zY_113.2.1 0 = .ok (.bipush 9, 2)) (by decide +kernel)
theorem zf_zm_113_1 (env : List (Nat × Nat)) : zI9 113 zY_113 zm_113 env (2, 0, 0, 0, 0) 3 := zi_aload_n (by decide +kernel : decode zY_113.2.1 2 = .ok (.aload_n 0, 1)) rfl
theorem zf_zm_113_2 (env : List (Nat × Nat)) : zI9 113 zY_113 zm_113 env (3, 1, 13, 18, 0) 6 := zi_getf (i := 57) (N := 38) (C := "TransportPairModel$Book") (ref := "TransportPairModel$Book") (T := zF_13) (by decide +kernel : decode zY_113.2.1 3 = .ok (.getfield 57, 3)) rfl zuw_13 (by decide) (zw_T zwd_551) rfl
theorem zf_zm_113_3 (env : List (Nat × Nat)) : zI9 113 zY_113 zm_113 env (6, 2, 8, 0, 0) 8 := zi_bipush (by decide +kernel : decode zY_113.2.1 6 = .ok (.bipush 8, 2)) (by decide +kernel)
theorem zf_zm_113_4 (env : List (Nat × Nat)) : zI9 113 zY_113 zm_113 env (8, 42, 0, 0, 0) 9 := zi_idiv (by decide +kernel : decode zY_113.2.1 8 = .ok (.idiv, 1))
theorem zf_zm_113_5 (env : List (Nat × Nat)) : zI9 113 zY_113 zm_113 env (9, 0, 0, 0, 0) 10 := zi_aload_n (by decide +kernel : decode zY_113.2.1 9 = .ok (.aload_n 0, 1)) rfl
theorem zf_zm_113_6 (env : List (Nat × Nat)) : zI9 113 zY_113 zm_113 env (10, 1, 13, 20, 0) 13 := zi_getf (i := 118) (N := 38) (C := "TransportPairModel$Book") (ref := "TransportPairModel$Book") (T := zF_13) (by decide +kernel : decode zY_113.2.1 10 = .ok (.getfield 118, 3)) rfl zuw_13 (by decide) (zw_T zwd_570) rfl
theorem zf_zm_113_7 (env : List (Nat × Nat)) : zC9 113 zm_113 env (13, 66, 108, 130, 0) := zi_call (by decide +kernel) (zr_S (i := 114) zX_ok rfl (zgood_108) (by decide +kernel) (zw_T zwd_307) (zw_T zwd_568) (zw_T zwd_569) ⟨by decide +kernel, by decide +kernel, by decide +kernel⟩ (by decide +kernel : decode (zYf 113).2.1 13 = .ok (.invokestatic 114, 3)))
theorem zf_zm_113_8 (env : List (Nat × Nat)) : zI9 113 zY_113 zm_113 env (16, 36, 0, 0, 0) 17 := zi_imul (by decide +kernel : decode zY_113.2.1 16 = .ok (.imul, 1))
theorem zf_zm_113_9 (env : List (Nat × Nat)) : zI9 113 zY_113 zm_113 env (17, 2, 8, 0, 0) 19 := zi_bipush (by decide +kernel : decode zY_113.2.1 17 = .ok (.bipush 8, 2)) (by decide +kernel)
theorem zf_zm_113_10 (env : List (Nat × Nat)) : zI9 113 zY_113 zm_113 env (19, 42, 0, 0, 0) 20 := zi_idiv (by decide +kernel : decode zY_113.2.1 19 = .ok (.idiv, 1))
theorem zf_zm_113_11 (env : List (Nat × Nat)) : zI9 113 zY_113 zm_113 env (20, 2, 1, 0, 0) 21 := zi_iconst (by decide +kernel : decode zY_113.2.1 20 = .ok (.iconst 1, 1)) (by decide +kernel)
theorem zf_zm_113_12 (env : List (Nat × Nat)) : zC9 113 zm_113 env (21, 66, 108, 130, 0) := zi_call (by decide +kernel) (zr_S (i := 114) zX_ok rfl (zgood_108) (by decide +kernel) (zw_T zwd_307) (zw_T zwd_568) (zw_T zwd_569) ⟨by decide +kernel, by decide +kernel, by decide +kernel⟩ (by decide +kernel : decode (zYf 113).2.1 21 = .ok (.invokestatic 114, 3)))
theorem zf_zm_113_13 (env : List (Nat × Nat)) : zR9 113 env (24, 11, 0, 0, 0) := zi_iret (by decide +kernel : decode (zYf 113).2.1 24 = .ok (.ireturn, 1)) rfl
set_option maxRecDepth 100000 in
theorem zc_zm_113 (env : List (Nat × Nat)) : zcode zX (z_QF zEX zcl zft) (z_zm zEX zX zWL zcl zft zYf) zYf zW zET zcl zft (zGv env) 113 zm_113 zm_113.1 := ⟨Or.inl ⟨2, zf_zm_113_0 env, zpc_c⟩,
  Or.inl ⟨3, zf_zm_113_1 env, zpc_c⟩,
  Or.inl ⟨6, zf_zm_113_2 env, zpc_c⟩,
  Or.inl ⟨8, zf_zm_113_3 env, zpc_c⟩,
  Or.inl ⟨9, zf_zm_113_4 env, zpc_c⟩,
  Or.inl ⟨10, zf_zm_113_5 env, zpc_c⟩,
  Or.inl ⟨13, zf_zm_113_6 env, zpc_c⟩,
  Or.inr (Or.inr (Or.inl ⟨zf_zm_113_7 env, zpc_c⟩)),
  Or.inl ⟨17, zf_zm_113_8 env, zpc_c⟩,
  Or.inl ⟨19, zf_zm_113_9 env, zpc_c⟩,
  Or.inl ⟨20, zf_zm_113_10 env, zpc_c⟩,
  Or.inl ⟨21, zf_zm_113_11 env, zpc_c⟩,
  Or.inr (Or.inr (Or.inl ⟨zf_zm_113_12 env, zpc_c⟩)),
  Or.inr (Or.inl (zf_zm_113_13 env)), trivial⟩
theorem zf_zm_114_0 (env : List (Nat × Nat)) : zI9 114 zY_114 zm_114 env (0, 0, 0, 0, 0) 1 := zi_aload_n (by decide +kernel : decode zY_114.2.1 0 = .ok (.aload_n 0, 1)) rfl
theorem zf_zm_114_1 (env : List (Nat × Nat)) : zI9 114 zY_114 zm_114 env (1, 1, 13, 11, 2) 4 := zi_getf (i := 38) (N := 38) (C := "TransportPairModel$Book") (ref := "TransportPairModel$Book") (T := zF_13) (by decide +kernel : decode zY_114.2.1 1 = .ok (.getfield 38, 3)) rfl zuw_13 (by decide) (zw_T zwd_544) rfl
theorem zf_zm_114_2 (env : List (Nat × Nat)) : zI9 114 zY_114 zm_114 env (4, 63, 1, 0, 0) 5 := zi_iload_n (by decide +kernel : decode zY_114.2.1 4 = .ok (.iload_n 1, 1)) rfl
theorem zf_zm_114_3 (env : List (Nat × Nat)) : zI9 114 zY_114 zm_114 env (5, 62, 0, 0, 0) 6 := zi_bald (by decide +kernel : decode zY_114.2.1 5 = .ok (.baload, 1))
theorem zf_zm_114_4 (env : List (Nat × Nat)) : zI9 114 zY_114 zm_114 env (6, 6, 11, 0, 0) 9 := zi_if_ne (off := 15) (t := 21) (by decide +kernel : decode zY_114.2.1 6 = .ok (.ifCond .ne 15, 3)) (by decide) (by decide +kernel)
theorem zf_zm_114_5 (env : List (Nat × Nat)) : zI9 114 zY_114 zm_114 env (9, 63, 1, 0, 0) 10 := zi_iload_n (by decide +kernel : decode zY_114.2.1 9 = .ok (.iload_n 1, 1)) rfl
theorem zf_zm_114_6 (env : List (Nat × Nat)) : zI9 114 zY_114 zm_114 env (10, 2, 2, 0, 0) 11 := zi_iconst (by decide +kernel : decode zY_114.2.1 10 = .ok (.iconst 2, 1)) (by decide +kernel)
theorem zf_zm_114_7 (env : List (Nat × Nat)) : zI9 114 zY_114 zm_114 env (11, 29, 13, 0, 0) 14 := zi_icmp_ne (off := 12) (t := 23) (by decide +kernel : decode zY_114.2.1 11 = .ok (.if_icmp .ne 12, 3)) (by decide) (by decide +kernel)
theorem zf_zm_114_8 (env : List (Nat × Nat)) : zI9 114 zY_114 zm_114 env (14, 0, 0, 0, 0) 15 := zi_aload_n (by decide +kernel : decode zY_114.2.1 14 = .ok (.aload_n 0, 1)) rfl
theorem zf_zm_114_9 (env : List (Nat × Nat)) : zI9 114 zY_114 zm_114 env (15, 1, 13, 1, 3) 18 := zi_getf (i := 121) (N := 38) (C := "TransportPairModel$Book") (ref := "TransportPairModel$Book") (T := zF_13) (by decide +kernel : decode zY_114.2.1 15 = .ok (.getfield 121, 3)) rfl zuw_13 (by decide) (zw_T zwd_571) rfl
theorem zf_zm_114_10 (env : List (Nat × Nat)) : zI9 114 zY_114 zm_114 env (18, 6, 13, 0, 0) 21 := zi_if_ne (off := 5) (t := 23) (by decide +kernel : decode zY_114.2.1 18 = .ok (.ifCond .ne 5, 3)) (by decide) (by decide +kernel)
theorem zf_zm_114_11 (env : List (Nat × Nat)) : zI9 114 zY_114 zm_114 env (21, 2, 4294967295, 0, 0) 22 := zi_iconst (by decide +kernel : decode zY_114.2.1 21 = .ok (.iconst (-1), 1)) (by decide +kernel)
theorem zf_zm_114_12 (env : List (Nat × Nat)) : zR9 114 env (22, 11, 0, 0, 0) := zi_iret (by decide +kernel : decode (zYf 114).2.1 22 = .ok (.ireturn, 1)) rfl
theorem zf_zm_114_13 (env : List (Nat × Nat)) : zI9 114 zY_114 zm_114 env (23, 0, 0, 0, 0) 24 := zi_aload_n (by decide +kernel : decode zY_114.2.1 23 = .ok (.aload_n 0, 1)) rfl
theorem zf_zm_114_14 (env : List (Nat × Nat)) : zI9 114 zY_114 zm_114 env (24, 63, 1, 0, 0) 25 := zi_iload_n (by decide +kernel : decode zY_114.2.1 24 = .ok (.iload_n 1, 1)) rfl
theorem zf_zm_114_15 (env : List (Nat × Nat)) : zI9 114 zY_114 zm_114 env (25, 2, 2, 0, 0) 26 := zi_iconst (by decide +kernel : decode zY_114.2.1 25 = .ok (.iconst 2, 1)) (by decide +kernel)
theorem zf_zm_114_16 (env : List (Nat × Nat)) : zI9 114 zY_114 zm_114 env (26, 29, 18, 0, 0) 29 := zi_icmp_ne (off := 7) (t := 33) (by decide +kernel : decode zY_114.2.1 26 = .ok (.if_icmp .ne 7, 3)) (by decide) (by decide +kernel)
theorem zf_zm_114_17 (env : List (Nat × Nat)) : zI9 114 zY_114 zm_114 env (29, 99, 0, 0, 0) 33 := zi_none
theorem zf_zm_114_18 (env : List (Nat × Nat)) : zI9 114 zY_114 zm_114 env (33, 2, 0, 0, 0) 34 := zi_iconst (by decide +kernel : decode zY_114.2.1 33 = .ok (.iconst 0, 1)) (by decide +kernel)
theorem zf_zm_114_19 (env : List (Nat × Nat)) : zC9 114 zm_114 env (34, 66, 112, 130, 15) := zi_call (by decide +kernel) (zr_V (i := 125) (n := 1) (q := ("TransportPairModel$Book", zF_13, 38)) zX_ok rfl (zgood_112) (by decide +kernel) (zw_T zwd_307) (zw_T zwd_572) (zw_T zwd_573) rfl (zw_T zwd_574) ⟨by decide +kernel, by decide +kernel, by decide +kernel⟩ rfl (by decide +kernel : decode (zYf 114).2.1 34 = .ok (.invokevirtual 125, 3)))
theorem zf_zm_114_20 (env : List (Nat × Nat)) : zI9 114 zY_114 zm_114 env (37, 0, 0, 0, 0) 38 := zi_aload_n (by decide +kernel : decode zY_114.2.1 37 = .ok (.aload_n 0, 1)) rfl
theorem zf_zm_114_21 (env : List (Nat × Nat)) : zI9 114 zY_114 zm_114 env (38, 1, 13, 23, 0) 41 := zi_getf (i := 129) (N := 38) (C := "TransportPairModel$Book") (ref := "TransportPairModel$Book") (T := zF_13) (by decide +kernel : decode zY_114.2.1 38 = .ok (.getfield 129, 3)) rfl zuw_13 (by decide) (zw_T zwd_575) rfl
theorem zf_zm_114_22 (env : List (Nat × Nat)) : zI9 114 zY_114 zm_114 env (41, 56, 0, 0, 0) 42 := zi_ishl (by decide +kernel : decode zY_114.2.1 41 = .ok (.ishl, 1))
theorem zf_zm_114_23 (env : List (Nat × Nat)) : zI9 114 zY_114 zm_114 env (42, 10, 2, 0, 0) 43 := zi_istore_n (by decide +kernel : decode zY_114.2.1 42 = .ok (.istore_n 2, 1)) rfl (by decide)
theorem zf_zm_114_24 (env : List (Nat × Nat)) : zI9 114 zY_114 zm_114 env (43, 0, 0, 0, 0) 44 := zi_aload_n (by decide +kernel : decode zY_114.2.1 43 = .ok (.aload_n 0, 1)) rfl
theorem zf_zm_114_25 (env : List (Nat × Nat)) : zI9 114 zY_114 zm_114 env (44, 63, 1, 0, 0) 45 := zi_iload_n (by decide +kernel : decode zY_114.2.1 44 = .ok (.iload_n 1, 1)) rfl
theorem zf_zm_114_26 (env : List (Nat × Nat)) : zC9 114 zm_114 env (45, 66, 111, 131, 15) := zi_call (by decide +kernel) (zr_V (i := 132) (n := 1) (q := ("TransportPairModel$Book", zF_13, 38)) zX_ok rfl (zgood_111) (by decide +kernel) (zw_T zwd_307) (zw_T zwd_576) (zw_T zwd_577) rfl (zw_T zwd_578) ⟨by decide +kernel, by decide +kernel, by decide +kernel⟩ rfl (by decide +kernel : decode (zYf 114).2.1 45 = .ok (.invokevirtual 132, 3)))
theorem zf_zm_114_27 (env : List (Nat × Nat)) : zI9 114 zY_114 zm_114 env (48, 22, 29, 0, 0) 51 := zi_if_lt (off := 48) (t := 96) (by decide +kernel : decode zY_114.2.1 48 = .ok (.ifCond .lt 48, 3)) (by decide) (by decide +kernel)
theorem zf_zm_114_28 (env : List (Nat × Nat)) : zI9 114 zY_114 zm_114 env (51, 99, 0, 0, 0) 96 := zi_none
theorem zf_zm_114_29 (env : List (Nat × Nat)) : zI9 114 zY_114 zm_114 env (96, 0, 0, 0, 0) 97 := zi_aload_n (by decide +kernel : decode zY_114.2.1 96 = .ok (.aload_n 0, 1)) rfl
theorem zf_zm_114_30 (env : List (Nat × Nat)) : zI9 114 zY_114 zm_114 env (97, 2, 0, 0, 0) 98 := zi_iconst (by decide +kernel : decode zY_114.2.1 97 = .ok (.iconst 0, 1)) (by decide +kernel)
theorem zf_zm_114_31 (env : List (Nat × Nat)) : zC9 114 zm_114 env (98, 66, 111, 131, 15) := zi_call (by decide +kernel) (zr_V (i := 132) (n := 1) (q := ("TransportPairModel$Book", zF_13, 38)) zX_ok rfl (zgood_111) (by decide +kernel) (zw_T zwd_307) (zw_T zwd_576) (zw_T zwd_577) rfl (zw_T zwd_578) ⟨by decide +kernel, by decide +kernel, by decide +kernel⟩ rfl (by decide +kernel : decode (zYf 114).2.1 98 = .ok (.invokevirtual 132, 3)))
theorem zf_zm_114_32 (env : List (Nat × Nat)) : zI9 114 zY_114 zm_114 env (101, 23, 41, 0, 0) 104 := zi_if_ge (off := 19) (t := 120) (by decide +kernel : decode zY_114.2.1 101 = .ok (.ifCond .ge 19, 3)) (by decide) (by decide +kernel)
theorem zf_zm_114_33 (env : List (Nat × Nat)) : zI9 114 zY_114 zm_114 env (104, 0, 0, 0, 0) 105 := zi_aload_n (by decide +kernel : decode zY_114.2.1 104 = .ok (.aload_n 0, 1)) rfl
theorem zf_zm_114_34 (env : List (Nat × Nat)) : zI9 114 zY_114 zm_114 env (105, 2, 1, 0, 0) 106 := zi_iconst (by decide +kernel : decode zY_114.2.1 105 = .ok (.iconst 1, 1)) (by decide +kernel)
theorem zf_zm_114_35 (env : List (Nat × Nat)) : zC9 114 zm_114 env (106, 66, 111, 131, 15) := zi_call (by decide +kernel) (zr_V (i := 132) (n := 1) (q := ("TransportPairModel$Book", zF_13, 38)) zX_ok rfl (zgood_111) (by decide +kernel) (zw_T zwd_307) (zw_T zwd_576) (zw_T zwd_577) rfl (zw_T zwd_578) ⟨by decide +kernel, by decide +kernel, by decide +kernel⟩ rfl (by decide +kernel : decode (zYf 114).2.1 106 = .ok (.invokevirtual 132, 3)))
theorem zf_zm_114_36 (env : List (Nat × Nat)) : zI9 114 zY_114 zm_114 env (109, 23, 41, 0, 0) 112 := zi_if_ge (off := 11) (t := 120) (by decide +kernel : decode zY_114.2.1 109 = .ok (.ifCond .ge 11, 3)) (by decide) (by decide +kernel)
theorem zf_zm_114_37 (env : List (Nat × Nat)) : zI9 114 zY_114 zm_114 env (112, 0, 0, 0, 0) 113 := zi_aload_n (by decide +kernel : decode zY_114.2.1 112 = .ok (.aload_n 0, 1)) rfl
theorem zf_zm_114_38 (env : List (Nat × Nat)) : zI9 114 zY_114 zm_114 env (113, 2, 2, 0, 0) 114 := zi_iconst (by decide +kernel : decode zY_114.2.1 113 = .ok (.iconst 2, 1)) (by decide +kernel)
theorem zf_zm_114_39 (env : List (Nat × Nat)) : zC9 114 zm_114 env (114, 66, 111, 131, 15) := zi_call (by decide +kernel) (zr_V (i := 132) (n := 1) (q := ("TransportPairModel$Book", zF_13, 38)) zX_ok rfl (zgood_111) (by decide +kernel) (zw_T zwd_307) (zw_T zwd_576) (zw_T zwd_577) rfl (zw_T zwd_578) ⟨by decide +kernel, by decide +kernel, by decide +kernel⟩ rfl (by decide +kernel : decode (zYf 114).2.1 114 = .ok (.invokevirtual 132, 3)))
theorem zf_zm_114_40 (env : List (Nat × Nat)) : zI9 114 zY_114 zm_114 env (117, 22, 42, 0, 0) 120 := zi_if_lt (off := 7) (t := 124) (by decide +kernel : decode zY_114.2.1 117 = .ok (.ifCond .lt 7, 3)) (by decide) (by decide +kernel)
theorem zf_zm_114_41 (env : List (Nat × Nat)) : zI9 114 zY_114 zm_114 env (120, 99, 0, 0, 0) 124 := zi_none
theorem zf_zm_114_42 (env : List (Nat × Nat)) : zI9 114 zY_114 zm_114 env (124, 2, 0, 0, 0) 125 := zi_iconst (by decide +kernel : decode zY_114.2.1 124 = .ok (.iconst 0, 1)) (by decide +kernel)
theorem zf_zm_114_43 (env : List (Nat × Nat)) : zI9 114 zY_114 zm_114 env (125, 10, 3, 0, 0) 126 := zi_istore_n (by decide +kernel : decode zY_114.2.1 125 = .ok (.istore_n 3, 1)) rfl (by decide)
theorem zf_zm_114_44 (env : List (Nat × Nat)) : zI9 114 zY_114 zm_114 env (126, 0, 0, 0, 0) 127 := zi_aload_n (by decide +kernel : decode zY_114.2.1 126 = .ok (.aload_n 0, 1)) rfl
theorem zf_zm_114_45 (env : List (Nat × Nat)) : zI9 114 zY_114 zm_114 env (127, 1, 13, 2, 3) 130 := zi_getf (i := 136) (N := 38) (C := "TransportPairModel$Book") (ref := "TransportPairModel$Book") (T := zF_13) (by decide +kernel : decode zY_114.2.1 127 = .ok (.getfield 136, 3)) rfl zuw_13 (by decide) (zw_T zwd_579) rfl
theorem zf_zm_114_46 (env : List (Nat × Nat)) : zI9 114 zY_114 zm_114 env (130, 5, 48, 0, 0) 133 := zi_if_eq (off := 24) (t := 154) (by decide +kernel : decode zY_114.2.1 130 = .ok (.ifCond .eq 24, 3)) (by decide) (by decide +kernel)
theorem zf_zm_114_47 (env : List (Nat × Nat)) : zI9 114 zY_114 zm_114 env (133, 99, 0, 0, 0) 154 := zi_none
theorem zf_zm_114_48 (env : List (Nat × Nat)) : zI9 114 zY_114 zm_114 env (154, 2, 4294967295, 0, 0) 155 := zi_iconst (by decide +kernel : decode zY_114.2.1 154 = .ok (.iconst (-1), 1)) (by decide +kernel)
theorem zf_zm_114_49 (env : List (Nat × Nat)) : zR9 114 env (155, 11, 0, 0, 0) := zi_iret (by decide +kernel : decode (zYf 114).2.1 155 = .ok (.ireturn, 1)) rfl
set_option maxRecDepth 100000 in
theorem zc_zm_114 (env : List (Nat × Nat)) : zcode zX (z_QF zEX zcl zft) (z_zm zEX zX zWL zcl zft zYf) zYf zW zET zcl zft (zGv env) 114 zm_114 zm_114.1 := ⟨Or.inl ⟨1, zf_zm_114_0 env, zpc_c⟩,
  Or.inl ⟨4, zf_zm_114_1 env, zpc_c⟩,
  Or.inl ⟨5, zf_zm_114_2 env, zpc_c⟩,
  Or.inl ⟨6, zf_zm_114_3 env, zpc_c⟩,
  Or.inl ⟨9, zf_zm_114_4 env, zpc_c⟩,
  Or.inl ⟨10, zf_zm_114_5 env, zpc_c⟩,
  Or.inl ⟨11, zf_zm_114_6 env, zpc_c⟩,
  Or.inl ⟨14, zf_zm_114_7 env, zpc_c⟩,
  Or.inl ⟨15, zf_zm_114_8 env, zpc_c⟩,
  Or.inl ⟨18, zf_zm_114_9 env, zpc_c⟩,
  Or.inl ⟨21, zf_zm_114_10 env, zpc_c⟩,
  Or.inl ⟨22, zf_zm_114_11 env, zpc_c⟩,
  Or.inr (Or.inl (zf_zm_114_12 env)),
  Or.inl ⟨24, zf_zm_114_13 env, zpc_c⟩,
  Or.inl ⟨25, zf_zm_114_14 env, zpc_c⟩,
  Or.inl ⟨26, zf_zm_114_15 env, zpc_c⟩,
  Or.inl ⟨29, zf_zm_114_16 env, zpc_c⟩,
  Or.inl ⟨33, zf_zm_114_17 env, zpc_c⟩,
  Or.inl ⟨34, zf_zm_114_18 env, zpc_c⟩,
  Or.inr (Or.inr (Or.inl ⟨zf_zm_114_19 env, zpc_c⟩)),
  Or.inl ⟨38, zf_zm_114_20 env, zpc_c⟩,
  Or.inl ⟨41, zf_zm_114_21 env, zpc_c⟩,
  Or.inl ⟨42, zf_zm_114_22 env, zpc_c⟩,
  Or.inl ⟨43, zf_zm_114_23 env, zpc_c⟩,
  Or.inl ⟨44, zf_zm_114_24 env, zpc_c⟩,
  Or.inl ⟨45, zf_zm_114_25 env, zpc_c⟩,
  Or.inr (Or.inr (Or.inl ⟨zf_zm_114_26 env, zpc_c⟩)),
  Or.inl ⟨51, zf_zm_114_27 env, zpc_c⟩,
  Or.inl ⟨96, zf_zm_114_28 env, zpc_c⟩,
  Or.inl ⟨97, zf_zm_114_29 env, zpc_c⟩,
  Or.inl ⟨98, zf_zm_114_30 env, zpc_c⟩,
  Or.inr (Or.inr (Or.inl ⟨zf_zm_114_31 env, zpc_c⟩)),
  Or.inl ⟨104, zf_zm_114_32 env, zpc_c⟩,
  Or.inl ⟨105, zf_zm_114_33 env, zpc_c⟩,
  Or.inl ⟨106, zf_zm_114_34 env, zpc_c⟩,
  Or.inr (Or.inr (Or.inl ⟨zf_zm_114_35 env, zpc_c⟩)),
  Or.inl ⟨112, zf_zm_114_36 env, zpc_c⟩,
  Or.inl ⟨113, zf_zm_114_37 env, zpc_c⟩,
  Or.inl ⟨114, zf_zm_114_38 env, zpc_c⟩,
  Or.inr (Or.inr (Or.inl ⟨zf_zm_114_39 env, zpc_c⟩)),
  Or.inl ⟨120, zf_zm_114_40 env, zpc_c⟩,
  Or.inl ⟨124, zf_zm_114_41 env, zpc_c⟩,
  Or.inl ⟨125, zf_zm_114_42 env, zpc_c⟩,
  Or.inl ⟨126, zf_zm_114_43 env, zpc_c⟩,
  Or.inl ⟨127, zf_zm_114_44 env, zpc_c⟩,
  Or.inl ⟨130, zf_zm_114_45 env, zpc_c⟩,
  Or.inl ⟨133, zf_zm_114_46 env, zpc_c⟩,
  Or.inl ⟨154, zf_zm_114_47 env, zpc_c⟩,
  Or.inl ⟨155, zf_zm_114_48 env, zpc_c⟩,
  Or.inr (Or.inl (zf_zm_114_49 env)), trivial⟩
theorem zf_zm_115_0 (env : List (Nat × Nat)) : zI9 115 zY_115 zm_115 env (0, 0, 0, 0, 0) 1 := zi_aload_n (by decide +kernel : decode zY_115.2.1 0 = .ok (.aload_n 0, 1)) rfl
theorem zf_zm_115_1 (env : List (Nat × Nat)) : zI9 115 zY_115 zm_115 env (1, 13, 0, 0, 0) 2 := zi_dup (by decide +kernel : decode zY_115.2.1 1 = .ok (.dup, 1))
theorem zf_zm_115_2 (env : List (Nat × Nat)) : zI9 115 zY_115 zm_115 env (2, 1, 13, 0, 0) 5 := zi_getf (i := 146) (N := 38) (C := "TransportPairModel$Book") (ref := "TransportPairModel$Book") (T := zF_13) (by decide +kernel : decode zY_115.2.1 2 = .ok (.getfield 146, 3)) rfl zuw_13 (by decide) (zw_T zwd_580) rfl
theorem zf_zm_115_3 (env : List (Nat × Nat)) : zI9 115 zY_115 zm_115 env (5, 2, 1, 0, 0) 6 := zi_iconst (by decide +kernel : decode zY_115.2.1 5 = .ok (.iconst 1, 1)) (by decide +kernel)
theorem zf_zm_115_4 (env : List (Nat × Nat)) : zI9 115 zY_115 zm_115 env (6, 9, 0, 0, 0) 7 := zi_iadd (by decide +kernel : decode zY_115.2.1 6 = .ok (.iadd, 1))
theorem zf_zm_115_5 (env : List (Nat × Nat)) : zI9 115 zY_115 zm_115 env (7, 4, 13, 0, 0) 10 := zi_putf (i := 146) (N := 38) (C := "TransportPairModel$Book") (ref := "TransportPairModel$Book") (T := zF_13) (by decide +kernel : decode zY_115.2.1 7 = .ok (.putfield 146, 3)) rfl zuw_13 zFt_13 zFn_13 (by decide) (zw_T zwd_580) rfl rfl (ty := .int) (by decide +kernel) (rfl)
theorem zf_zm_115_6 (env : List (Nat × Nat)) : zI9 115 zY_115 zm_115 env (10, 2, 4294967295, 0, 0) 11 := zi_iconst (by decide +kernel : decode zY_115.2.1 10 = .ok (.iconst (-1), 1)) (by decide +kernel)
theorem zf_zm_115_7 (env : List (Nat × Nat)) : zI9 115 zY_115 zm_115 env (11, 10, 1, 0, 0) 12 := zi_istore_n (by decide +kernel : decode zY_115.2.1 11 = .ok (.istore_n 1, 1)) rfl (by decide)
theorem zf_zm_115_8 (env : List (Nat × Nat)) : zI9 115 zY_115 zm_115 env (12, 2, 0, 0, 0) 13 := zi_iconst (by decide +kernel : decode zY_115.2.1 12 = .ok (.iconst 0, 1)) (by decide +kernel)
theorem zf_zm_115_9 (env : List (Nat × Nat)) : zI9 115 zY_115 zm_115 env (13, 10, 2, 0, 0) 14 := zi_istore_n (by decide +kernel : decode zY_115.2.1 13 = .ok (.istore_n 2, 1)) rfl (by decide)
theorem zf_zm_115_10 (env : List (Nat × Nat)) : zI9 115 zY_115 zm_115 env (14, 63, 2, 0, 0) 15 := zi_iload_n (by decide +kernel : decode zY_115.2.1 14 = .ok (.iload_n 2, 1)) rfl
theorem zf_zm_115_11 (env : List (Nat × Nat)) : zI9 115 zY_115 zm_115 env (15, 2, 3, 0, 0) 16 := zi_iconst (by decide +kernel : decode zY_115.2.1 15 = .ok (.iconst 3, 1)) (by decide +kernel)
theorem zf_zm_115_12 (env : List (Nat × Nat)) : zI9 115 zY_115 zm_115 env (16, 28, 21, 0, 0) 19 := zi_icmp_ge (off := 52) (t := 68) (by decide +kernel : decode zY_115.2.1 16 = .ok (.if_icmp .ge 52, 3)) (by decide) (by decide +kernel)
theorem zf_zm_115_13 (env : List (Nat × Nat)) : zI9 115 zY_115 zm_115 env (19, 0, 0, 0, 0) 20 := zi_aload_n (by decide +kernel : decode zY_115.2.1 19 = .ok (.aload_n 0, 1)) rfl
theorem zf_zm_115_14 (env : List (Nat × Nat)) : zI9 115 zY_115 zm_115 env (20, 1, 13, 13, 2) 23 := zi_getf (i := 44) (N := 38) (C := "TransportPairModel$Book") (ref := "TransportPairModel$Book") (T := zF_13) (by decide +kernel : decode zY_115.2.1 20 = .ok (.getfield 44, 3)) rfl zuw_13 (by decide) (zw_T zwd_546) rfl
theorem zf_zm_115_15 (env : List (Nat × Nat)) : zI9 115 zY_115 zm_115 env (23, 63, 2, 0, 0) 24 := zi_iload_n (by decide +kernel : decode zY_115.2.1 23 = .ok (.iload_n 2, 1)) rfl
theorem zf_zm_115_16 (env : List (Nat × Nat)) : zI9 115 zY_115 zm_115 env (24, 8, 0, 0, 0) 25 := zi_iald (zscr_ok (by decide +kernel : decode zY_115.2.1 24 = .ok (.iaload, 1))) (by decide +kernel : decode zY_115.2.1 24 = .ok (.iaload, 1))
theorem zf_zm_115_17 (env : List (Nat × Nat)) : zI9 115 zY_115 zm_115 env (25, 22, 19, 0, 0) 28 := zi_if_lt (off := 37) (t := 62) (by decide +kernel : decode zY_115.2.1 25 = .ok (.ifCond .lt 37, 3)) (by decide) (by decide +kernel)
theorem zf_zm_115_18 (env : List (Nat × Nat)) : zI9 115 zY_115 zm_115 env (28, 99, 0, 0, 0) 62 := zi_none
theorem zf_zm_115_19 (env : List (Nat × Nat)) : zI9 115 zY_115 zm_115 env (62, 35, 2, 1, 0) 65 := zi_iinc (by decide +kernel : decode zY_115.2.1 62 = .ok (.iinc 2 1, 3)) (by decide +kernel) (by decide)
theorem zf_zm_115_20 (env : List (Nat × Nat)) : zI9 115 zY_115 zm_115 env (65, 7, 10, 0, 0) 68 := zi_goto (off := (-51)) (t := 14) (by decide +kernel : decode zY_115.2.1 65 = .ok (.goto (-51), 3)) (by decide) (by decide +kernel)
theorem zf_zm_115_21 (env : List (Nat × Nat)) : zI9 115 zY_115 zm_115 env (68, 63, 1, 0, 0) 69 := zi_iload_n (by decide +kernel : decode zY_115.2.1 68 = .ok (.iload_n 1, 1)) rfl
theorem zf_zm_115_22 (env : List (Nat × Nat)) : zI9 115 zY_115 zm_115 env (69, 22, 24, 0, 0) 72 := zi_if_lt (off := 10) (t := 79) (by decide +kernel : decode zY_115.2.1 69 = .ok (.ifCond .lt 10, 3)) (by decide) (by decide +kernel)
theorem zf_zm_115_23 (env : List (Nat × Nat)) : zI9 115 zY_115 zm_115 env (72, 99, 0, 0, 0) 79 := zi_none
theorem zf_zm_115_24 (env : List (Nat × Nat)) : zI9 115 zY_115 zm_115 env (79, 2, 0, 0, 0) 80 := zi_iconst (by decide +kernel : decode zY_115.2.1 79 = .ok (.iconst 0, 1)) (by decide +kernel)
theorem zf_zm_115_25 (env : List (Nat × Nat)) : zI9 115 zY_115 zm_115 env (80, 10, 2, 0, 0) 81 := zi_istore_n (by decide +kernel : decode zY_115.2.1 80 = .ok (.istore_n 2, 1)) rfl (by decide)
theorem zf_zm_115_26 (env : List (Nat × Nat)) : zI9 115 zY_115 zm_115 env (81, 2, 0, 0, 0) 82 := zi_iconst (by decide +kernel : decode zY_115.2.1 81 = .ok (.iconst 0, 1)) (by decide +kernel)
theorem zf_zm_115_27 (env : List (Nat × Nat)) : zI9 115 zY_115 zm_115 env (82, 10, 3, 0, 0) 83 := zi_istore_n (by decide +kernel : decode zY_115.2.1 82 = .ok (.istore_n 3, 1)) rfl (by decide)
theorem zf_zm_115_28 (env : List (Nat × Nat)) : zI9 115 zY_115 zm_115 env (83, 63, 3, 0, 0) 84 := zi_iload_n (by decide +kernel : decode zY_115.2.1 83 = .ok (.iload_n 3, 1)) rfl
theorem zf_zm_115_29 (env : List (Nat × Nat)) : zI9 115 zY_115 zm_115 env (84, 2, 3, 0, 0) 85 := zi_iconst (by decide +kernel : decode zY_115.2.1 84 = .ok (.iconst 3, 1)) (by decide +kernel)
theorem zf_zm_115_30 (env : List (Nat × Nat)) : zI9 115 zY_115 zm_115 env (85, 28, 40, 0, 0) 88 := zi_icmp_ge (off := 48) (t := 133) (by decide +kernel : decode zY_115.2.1 85 = .ok (.if_icmp .ge 48, 3)) (by decide) (by decide +kernel)
theorem zf_zm_115_31 (env : List (Nat × Nat)) : zI9 115 zY_115 zm_115 env (88, 0, 0, 0, 0) 89 := zi_aload_n (by decide +kernel : decode zY_115.2.1 88 = .ok (.aload_n 0, 1)) rfl
theorem zf_zm_115_32 (env : List (Nat × Nat)) : zI9 115 zY_115 zm_115 env (89, 63, 3, 0, 0) 90 := zi_iload_n (by decide +kernel : decode zY_115.2.1 89 = .ok (.iload_n 3, 1)) rfl
theorem zf_zm_115_33 (env : List (Nat × Nat)) : zC9 115 zm_115 env (90, 66, 114, 132, 15) := zi_call (by decide +kernel) (zr_V (i := 183) (n := 1) (q := ("TransportPairModel$Book", zF_13, 38)) zX_ok rfl (zgood_114) (by decide +kernel) (zw_T zwd_307) (zw_T zwd_581) (zw_T zwd_582) rfl (zw_T zwd_583) ⟨by decide +kernel, by decide +kernel, by decide +kernel⟩ rfl (by decide +kernel : decode (zYf 115).2.1 90 = .ok (.invokevirtual 183, 3)))
theorem zf_zm_115_34 (env : List (Nat × Nat)) : zI9 115 zY_115 zm_115 env (93, 10, 4, 0, 0) 95 := zi_istore (by decide +kernel : decode zY_115.2.1 93 = .ok (.istore 4, 2)) (by decide)
theorem zf_zm_115_35 (env : List (Nat × Nat)) : zI9 115 zY_115 zm_115 env (95, 63, 4, 0, 0) 97 := zi_iload (by decide +kernel : decode zY_115.2.1 95 = .ok (.iload 4, 2))
theorem zf_zm_115_36 (env : List (Nat × Nat)) : zI9 115 zY_115 zm_115 env (97, 22, 38, 0, 0) 100 := zi_if_lt (off := 30) (t := 127) (by decide +kernel : decode zY_115.2.1 97 = .ok (.ifCond .lt 30, 3)) (by decide) (by decide +kernel)
theorem zf_zm_115_37 (env : List (Nat × Nat)) : zI9 115 zY_115 zm_115 env (100, 99, 0, 0, 0) 127 := zi_none
theorem zf_zm_115_38 (env : List (Nat × Nat)) : zI9 115 zY_115 zm_115 env (127, 35, 3, 1, 0) 130 := zi_iinc (by decide +kernel : decode zY_115.2.1 127 = .ok (.iinc 3 1, 3)) (by decide +kernel) (by decide)
theorem zf_zm_115_39 (env : List (Nat × Nat)) : zI9 115 zY_115 zm_115 env (130, 7, 28, 0, 0) 133 := zi_goto (off := (-47)) (t := 83) (by decide +kernel : decode zY_115.2.1 130 = .ok (.goto (-47), 3)) (by decide) (by decide +kernel)
theorem zf_zm_115_40 (env : List (Nat × Nat)) : zI9 115 zY_115 zm_115 env (133, 63, 1, 0, 0) 134 := zi_iload_n (by decide +kernel : decode zY_115.2.1 133 = .ok (.iload_n 1, 1)) rfl
theorem zf_zm_115_41 (env : List (Nat × Nat)) : zI9 115 zY_115 zm_115 env (134, 23, 44, 0, 0) 137 := zi_if_ge (off := 5) (t := 139) (by decide +kernel : decode zY_115.2.1 134 = .ok (.ifCond .ge 5, 3)) (by decide) (by decide +kernel)
theorem zf_zm_115_42 (env : List (Nat × Nat)) : zI9 115 zY_115 zm_115 env (137, 2, 0, 0, 0) 138 := zi_iconst (by decide +kernel : decode zY_115.2.1 137 = .ok (.iconst 0, 1)) (by decide +kernel)
theorem zf_zm_115_43 (env : List (Nat × Nat)) : zR9 115 env (138, 11, 0, 0, 0) := zi_iret (by decide +kernel : decode (zYf 115).2.1 138 = .ok (.ireturn, 1)) rfl
theorem zf_zm_115_44 (env : List (Nat × Nat)) : zI9 115 zY_115 zm_115 env (139, 99, 0, 0, 0) 0 := zi_none
set_option maxRecDepth 100000 in
theorem zc_zm_115 (env : List (Nat × Nat)) : zcode zX (z_QF zEX zcl zft) (z_zm zEX zX zWL zcl zft zYf) zYf zW zET zcl zft (zGv env) 115 zm_115 zm_115.1 := ⟨Or.inl ⟨1, zf_zm_115_0 env, zpc_c⟩,
  Or.inl ⟨2, zf_zm_115_1 env, zpc_c⟩,
  Or.inl ⟨5, zf_zm_115_2 env, zpc_c⟩,
  Or.inl ⟨6, zf_zm_115_3 env, zpc_c⟩,
  Or.inl ⟨7, zf_zm_115_4 env, zpc_c⟩,
  Or.inl ⟨10, zf_zm_115_5 env, zpc_c⟩,
  Or.inl ⟨11, zf_zm_115_6 env, zpc_c⟩,
  Or.inl ⟨12, zf_zm_115_7 env, zpc_c⟩,
  Or.inl ⟨13, zf_zm_115_8 env, zpc_c⟩,
  Or.inl ⟨14, zf_zm_115_9 env, zpc_c⟩,
  Or.inl ⟨15, zf_zm_115_10 env, zpc_c⟩,
  Or.inl ⟨16, zf_zm_115_11 env, zpc_c⟩,
  Or.inl ⟨19, zf_zm_115_12 env, zpc_c⟩,
  Or.inl ⟨20, zf_zm_115_13 env, zpc_c⟩,
  Or.inl ⟨23, zf_zm_115_14 env, zpc_c⟩,
  Or.inl ⟨24, zf_zm_115_15 env, zpc_c⟩,
  Or.inl ⟨25, zf_zm_115_16 env, zpc_c⟩,
  Or.inl ⟨28, zf_zm_115_17 env, zpc_c⟩,
  Or.inl ⟨62, zf_zm_115_18 env, zpc_c⟩,
  Or.inl ⟨65, zf_zm_115_19 env, zpc_c⟩,
  Or.inl ⟨68, zf_zm_115_20 env, zpc_c⟩,
  Or.inl ⟨69, zf_zm_115_21 env, zpc_c⟩,
  Or.inl ⟨72, zf_zm_115_22 env, zpc_c⟩,
  Or.inl ⟨79, zf_zm_115_23 env, zpc_c⟩,
  Or.inl ⟨80, zf_zm_115_24 env, zpc_c⟩,
  Or.inl ⟨81, zf_zm_115_25 env, zpc_c⟩,
  Or.inl ⟨82, zf_zm_115_26 env, zpc_c⟩,
  Or.inl ⟨83, zf_zm_115_27 env, zpc_c⟩,
  Or.inl ⟨84, zf_zm_115_28 env, zpc_c⟩,
  Or.inl ⟨85, zf_zm_115_29 env, zpc_c⟩,
  Or.inl ⟨88, zf_zm_115_30 env, zpc_c⟩,
  Or.inl ⟨89, zf_zm_115_31 env, zpc_c⟩,
  Or.inl ⟨90, zf_zm_115_32 env, zpc_c⟩,
  Or.inr (Or.inr (Or.inl ⟨zf_zm_115_33 env, zpc_c⟩)),
  Or.inl ⟨95, zf_zm_115_34 env, zpc_c⟩,
  Or.inl ⟨97, zf_zm_115_35 env, zpc_c⟩,
  Or.inl ⟨100, zf_zm_115_36 env, zpc_c⟩,
  Or.inl ⟨127, zf_zm_115_37 env, zpc_c⟩,
  Or.inl ⟨130, zf_zm_115_38 env, zpc_c⟩,
  Or.inl ⟨133, zf_zm_115_39 env, zpc_c⟩,
  Or.inl ⟨134, zf_zm_115_40 env, zpc_c⟩,
  Or.inl ⟨137, zf_zm_115_41 env, zpc_c⟩,
  Or.inl ⟨138, zf_zm_115_42 env, zpc_c⟩,
  Or.inr (Or.inl (zf_zm_115_43 env)),
  Or.inl ⟨0, zf_zm_115_44 env, zpc_n⟩, trivial⟩
theorem zf_zm_116_0 (env : List (Nat × Nat)) : zI9 116 zY_116 zm_116 env (0, 63, 1, 0, 0) 1 := zi_iload_n (by decide +kernel : decode zY_116.2.1 0 = .ok (.iload_n 1, 1)) rfl
theorem zf_zm_116_1 (env : List (Nat × Nat)) : zI9 116 zY_116 zm_116 env (1, 40, 0, 0, 0) 56 := zi_switch (df := 32) (lo := 0) (tg := [2, 5, 8, 11, 14, 17, 20, 23, 26, 29]) (by decide +kernel : decode zY_116.2.1 1 = .ok (.tableswitch 105 0 9 #[55, 60, 65, 70, 75, 80, 85, 90, 95, 100], 55)) rfl (by decide) (by decide +kernel) (by decide +kernel)
theorem zf_zm_116_2 (env : List (Nat × Nat)) : zI9 116 zY_116 zm_116 env (56, 0, 0, 0, 0) 57 := zi_aload_n (by decide +kernel : decode zY_116.2.1 56 = .ok (.aload_n 0, 1)) rfl
theorem zf_zm_116_3 (env : List (Nat × Nat)) : zI9 116 zY_116 zm_116 env (57, 1, 13, 0, 0) 60 := zi_getf (i := 146) (N := 38) (C := "TransportPairModel$Book") (ref := "TransportPairModel$Book") (T := zF_13) (by decide +kernel : decode zY_116.2.1 57 = .ok (.getfield 146, 3)) rfl zuw_13 (by decide) (zw_T zwd_580) rfl
theorem zf_zm_116_4 (env : List (Nat × Nat)) : zR9 116 env (60, 11, 0, 0, 0) := zi_iret (by decide +kernel : decode (zYf 116).2.1 60 = .ok (.ireturn, 1)) rfl
theorem zf_zm_116_5 (env : List (Nat × Nat)) : zI9 116 zY_116 zm_116 env (61, 0, 0, 0, 0) 62 := zi_aload_n (by decide +kernel : decode zY_116.2.1 61 = .ok (.aload_n 0, 1)) rfl
theorem zf_zm_116_6 (env : List (Nat × Nat)) : zC9 116 zm_116 env (62, 66, 109, 68, 15) := zi_call (by decide +kernel) (zr_V (i := 149) (n := 0) (q := ("TransportPairModel$Book", zF_13, 38)) zX_ok rfl (zgood_109) (by decide +kernel) (zw_T zwd_307) (zw_T zwd_584) (zw_T zwd_585) rfl (zw_T zwd_586) ⟨by decide +kernel, by decide +kernel, by decide +kernel⟩ rfl (by decide +kernel : decode (zYf 116).2.1 62 = .ok (.invokevirtual 149, 3)))
theorem zf_zm_116_7 (env : List (Nat × Nat)) : zR9 116 env (65, 11, 0, 0, 0) := zi_iret (by decide +kernel : decode (zYf 116).2.1 65 = .ok (.ireturn, 1)) rfl
theorem zf_zm_116_8 (env : List (Nat × Nat)) : zI9 116 zY_116 zm_116 env (66, 0, 0, 0, 0) 67 := zi_aload_n (by decide +kernel : decode zY_116.2.1 66 = .ok (.aload_n 0, 1)) rfl
theorem zf_zm_116_9 (env : List (Nat × Nat)) : zI9 116 zY_116 zm_116 env (67, 1, 13, 24, 0) 70 := zi_getf (i := 70) (N := 38) (C := "TransportPairModel$Book") (ref := "TransportPairModel$Book") (T := zF_13) (by decide +kernel : decode zY_116.2.1 67 = .ok (.getfield 70, 3)) rfl zuw_13 (by decide) (zw_T zwd_555) rfl
theorem zf_zm_116_10 (env : List (Nat × Nat)) : zR9 116 env (70, 11, 0, 0, 0) := zi_iret (by decide +kernel : decode (zYf 116).2.1 70 = .ok (.ireturn, 1)) rfl
theorem zf_zm_116_11 (env : List (Nat × Nat)) : zI9 116 zY_116 zm_116 env (71, 0, 0, 0, 0) 72 := zi_aload_n (by decide +kernel : decode zY_116.2.1 71 = .ok (.aload_n 0, 1)) rfl
theorem zf_zm_116_12 (env : List (Nat × Nat)) : zI9 116 zY_116 zm_116 env (72, 1, 13, 25, 0) 75 := zi_getf (i := 73) (N := 38) (C := "TransportPairModel$Book") (ref := "TransportPairModel$Book") (T := zF_13) (by decide +kernel : decode zY_116.2.1 72 = .ok (.getfield 73, 3)) rfl zuw_13 (by decide) (zw_T zwd_556) rfl
theorem zf_zm_116_13 (env : List (Nat × Nat)) : zR9 116 env (75, 11, 0, 0, 0) := zi_iret (by decide +kernel : decode (zYf 116).2.1 75 = .ok (.ireturn, 1)) rfl
theorem zf_zm_116_14 (env : List (Nat × Nat)) : zI9 116 zY_116 zm_116 env (76, 0, 0, 0, 0) 77 := zi_aload_n (by decide +kernel : decode zY_116.2.1 76 = .ok (.aload_n 0, 1)) rfl
theorem zf_zm_116_15 (env : List (Nat × Nat)) : zI9 116 zY_116 zm_116 env (77, 1, 13, 26, 0) 80 := zi_getf (i := 76) (N := 38) (C := "TransportPairModel$Book") (ref := "TransportPairModel$Book") (T := zF_13) (by decide +kernel : decode zY_116.2.1 77 = .ok (.getfield 76, 3)) rfl zuw_13 (by decide) (zw_T zwd_557) rfl
theorem zf_zm_116_16 (env : List (Nat × Nat)) : zR9 116 env (80, 11, 0, 0, 0) := zi_iret (by decide +kernel : decode (zYf 116).2.1 80 = .ok (.ireturn, 1)) rfl
theorem zf_zm_116_17 (env : List (Nat × Nat)) : zI9 116 zY_116 zm_116 env (81, 0, 0, 0, 0) 82 := zi_aload_n (by decide +kernel : decode zY_116.2.1 81 = .ok (.aload_n 0, 1)) rfl
theorem zf_zm_116_18 (env : List (Nat × Nat)) : zI9 116 zY_116 zm_116 env (82, 1, 13, 18, 0) 85 := zi_getf (i := 57) (N := 38) (C := "TransportPairModel$Book") (ref := "TransportPairModel$Book") (T := zF_13) (by decide +kernel : decode zY_116.2.1 82 = .ok (.getfield 57, 3)) rfl zuw_13 (by decide) (zw_T zwd_551) rfl
theorem zf_zm_116_19 (env : List (Nat × Nat)) : zR9 116 env (85, 11, 0, 0, 0) := zi_iret (by decide +kernel : decode (zYf 116).2.1 85 = .ok (.ireturn, 1)) rfl
theorem zf_zm_116_20 (env : List (Nat × Nat)) : zI9 116 zY_116 zm_116 env (86, 0, 0, 0, 0) 87 := zi_aload_n (by decide +kernel : decode zY_116.2.1 86 = .ok (.aload_n 0, 1)) rfl
theorem zf_zm_116_21 (env : List (Nat × Nat)) : zI9 116 zY_116 zm_116 env (87, 1, 13, 19, 0) 90 := zi_getf (i := 61) (N := 38) (C := "TransportPairModel$Book") (ref := "TransportPairModel$Book") (T := zF_13) (by decide +kernel : decode zY_116.2.1 87 = .ok (.getfield 61, 3)) rfl zuw_13 (by decide) (zw_T zwd_552) rfl
theorem zf_zm_116_22 (env : List (Nat × Nat)) : zR9 116 env (90, 11, 0, 0, 0) := zi_iret (by decide +kernel : decode (zYf 116).2.1 90 = .ok (.ireturn, 1)) rfl
theorem zf_zm_116_23 (env : List (Nat × Nat)) : zI9 116 zY_116 zm_116 env (91, 0, 0, 0, 0) 92 := zi_aload_n (by decide +kernel : decode zY_116.2.1 91 = .ok (.aload_n 0, 1)) rfl
theorem zf_zm_116_24 (env : List (Nat × Nat)) : zI9 116 zY_116 zm_116 env (92, 1, 13, 20, 0) 95 := zi_getf (i := 118) (N := 38) (C := "TransportPairModel$Book") (ref := "TransportPairModel$Book") (T := zF_13) (by decide +kernel : decode zY_116.2.1 92 = .ok (.getfield 118, 3)) rfl zuw_13 (by decide) (zw_T zwd_570) rfl
theorem zf_zm_116_25 (env : List (Nat × Nat)) : zR9 116 env (95, 11, 0, 0, 0) := zi_iret (by decide +kernel : decode (zYf 116).2.1 95 = .ok (.ireturn, 1)) rfl
theorem zf_zm_116_26 (env : List (Nat × Nat)) : zI9 116 zY_116 zm_116 env (96, 0, 0, 0, 0) 97 := zi_aload_n (by decide +kernel : decode zY_116.2.1 96 = .ok (.aload_n 0, 1)) rfl
theorem zf_zm_116_27 (env : List (Nat × Nat)) : zI9 116 zY_116 zm_116 env (97, 1, 13, 21, 0) 100 := zi_getf (i := 64) (N := 38) (C := "TransportPairModel$Book") (ref := "TransportPairModel$Book") (T := zF_13) (by decide +kernel : decode zY_116.2.1 97 = .ok (.getfield 64, 3)) rfl zuw_13 (by decide) (zw_T zwd_553) rfl
theorem zf_zm_116_28 (env : List (Nat × Nat)) : zR9 116 env (100, 11, 0, 0, 0) := zi_iret (by decide +kernel : decode (zYf 116).2.1 100 = .ok (.ireturn, 1)) rfl
theorem zf_zm_116_29 (env : List (Nat × Nat)) : zI9 116 zY_116 zm_116 env (101, 0, 0, 0, 0) 102 := zi_aload_n (by decide +kernel : decode zY_116.2.1 101 = .ok (.aload_n 0, 1)) rfl
theorem zf_zm_116_30 (env : List (Nat × Nat)) : zI9 116 zY_116 zm_116 env (102, 1, 13, 23, 0) 105 := zi_getf (i := 129) (N := 38) (C := "TransportPairModel$Book") (ref := "TransportPairModel$Book") (T := zF_13) (by decide +kernel : decode zY_116.2.1 102 = .ok (.getfield 129, 3)) rfl zuw_13 (by decide) (zw_T zwd_575) rfl
theorem zf_zm_116_31 (env : List (Nat × Nat)) : zR9 116 env (105, 11, 0, 0, 0) := zi_iret (by decide +kernel : decode (zYf 116).2.1 105 = .ok (.ireturn, 1)) rfl
theorem zf_zm_116_32 (env : List (Nat × Nat)) : zI9 116 zY_116 zm_116 env (106, 0, 0, 0, 0) 107 := zi_aload_n (by decide +kernel : decode zY_116.2.1 106 = .ok (.aload_n 0, 1)) rfl
theorem zf_zm_116_33 (env : List (Nat × Nat)) : zC9 116 zm_116 env (107, 66, 113, 65, 15) := zi_call (by decide +kernel) (zr_V (i := 177) (n := 0) (q := ("TransportPairModel$Book", zF_13, 38)) zX_ok rfl (zgood_113) (by decide +kernel) (zw_T zwd_307) (zw_T zwd_587) (zw_T zwd_588) rfl (zw_T zwd_589) ⟨by decide +kernel, by decide +kernel, by decide +kernel⟩ rfl (by decide +kernel : decode (zYf 116).2.1 107 = .ok (.invokevirtual 177, 3)))
theorem zf_zm_116_34 (env : List (Nat × Nat)) : zR9 116 env (110, 11, 0, 0, 0) := zi_iret (by decide +kernel : decode (zYf 116).2.1 110 = .ok (.ireturn, 1)) rfl
set_option maxRecDepth 100000 in
theorem zc_zm_116 (env : List (Nat × Nat)) : zcode zX (z_QF zEX zcl zft) (z_zm zEX zX zWL zcl zft zYf) zYf zW zET zcl zft (zGv env) 116 zm_116 zm_116.1 := ⟨Or.inl ⟨1, zf_zm_116_0 env, zpc_c⟩,
  Or.inl ⟨56, zf_zm_116_1 env, zpc_c⟩,
  Or.inl ⟨57, zf_zm_116_2 env, zpc_c⟩,
  Or.inl ⟨60, zf_zm_116_3 env, zpc_c⟩,
  Or.inr (Or.inl (zf_zm_116_4 env)),
  Or.inl ⟨62, zf_zm_116_5 env, zpc_c⟩,
  Or.inr (Or.inr (Or.inl ⟨zf_zm_116_6 env, zpc_c⟩)),
  Or.inr (Or.inl (zf_zm_116_7 env)),
  Or.inl ⟨67, zf_zm_116_8 env, zpc_c⟩,
  Or.inl ⟨70, zf_zm_116_9 env, zpc_c⟩,
  Or.inr (Or.inl (zf_zm_116_10 env)),
  Or.inl ⟨72, zf_zm_116_11 env, zpc_c⟩,
  Or.inl ⟨75, zf_zm_116_12 env, zpc_c⟩,
  Or.inr (Or.inl (zf_zm_116_13 env)),
  Or.inl ⟨77, zf_zm_116_14 env, zpc_c⟩,
  Or.inl ⟨80, zf_zm_116_15 env, zpc_c⟩,
  Or.inr (Or.inl (zf_zm_116_16 env)),
  Or.inl ⟨82, zf_zm_116_17 env, zpc_c⟩,
  Or.inl ⟨85, zf_zm_116_18 env, zpc_c⟩,
  Or.inr (Or.inl (zf_zm_116_19 env)),
  Or.inl ⟨87, zf_zm_116_20 env, zpc_c⟩,
  Or.inl ⟨90, zf_zm_116_21 env, zpc_c⟩,
  Or.inr (Or.inl (zf_zm_116_22 env)),
  Or.inl ⟨92, zf_zm_116_23 env, zpc_c⟩,
  Or.inl ⟨95, zf_zm_116_24 env, zpc_c⟩,
  Or.inr (Or.inl (zf_zm_116_25 env)),
  Or.inl ⟨97, zf_zm_116_26 env, zpc_c⟩,
  Or.inl ⟨100, zf_zm_116_27 env, zpc_c⟩,
  Or.inr (Or.inl (zf_zm_116_28 env)),
  Or.inl ⟨102, zf_zm_116_29 env, zpc_c⟩,
  Or.inl ⟨105, zf_zm_116_30 env, zpc_c⟩,
  Or.inr (Or.inl (zf_zm_116_31 env)),
  Or.inl ⟨107, zf_zm_116_32 env, zpc_c⟩,
  Or.inr (Or.inr (Or.inl ⟨zf_zm_116_33 env, zpc_c⟩)),
  Or.inr (Or.inl (zf_zm_116_34 env)), trivial⟩
