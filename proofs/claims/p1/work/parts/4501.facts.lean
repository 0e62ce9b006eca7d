/-! FACTS (by program) -/
theorem zf_zm_34_0 (env : List (Nat × Nat)) : zI9 34 zY_34 zm_34 env (0, 63, 1, 0, 0) 1 := zi_iload_n (by decide +kernel : decode zY_34.2.1 0 = .ok (.iload_n 1, 1)) rfl
theorem zf_zm_34_1 (env : List (Nat × Nat)) : zC9 34 zm_34 env (1, 3, 36, 65, 0) := zi_callT (by decide +kernel) (zr_S (i := 87) zX_ok rfl (zgood_36) (by decide +kernel) (zw_T zwd_124) (zw_T zwd_132) (zw_T zwd_133) ⟨by decide +kernel, by decide +kernel, by decide +kernel⟩ (by decide +kernel : decode (zYf 34).2.1 1 = .ok (.invokestatic 87, 3))) (zt_S (i := 87) zX_ok zeo_zm_34 zNC_ok rfl (zgood_36) (by decide +kernel) (zw_T zwd_124) (zw_T zwd_132) (zw_T zwd_133) ⟨by decide +kernel, by decide +kernel, by decide +kernel⟩ (by decide +kernel : decode (zYf 34).2.1 1 = .ok (.invokestatic 87, 3)))
theorem zf_zm_34_2 (env : List (Nat × Nat)) : zI9 34 zY_34 zm_34 env (4, 63, 2, 0, 0) 5 := zi_iload_n (by decide +kernel : decode zY_34.2.1 4 = .ok (.iload_n 2, 1)) rfl
theorem zf_zm_34_3 (env : List (Nat × Nat)) : zI9 34 zY_34 zm_34 env (5, 2, 13, 0, 0) 7 := zi_bipush (by decide +kernel : decode zY_34.2.1 5 = .ok (.bipush 13, 2)) (by decide +kernel)
theorem zf_zm_34_4 (env : List (Nat × Nat)) : zC9 34 zm_34 env (7, 3, 37, 130, 0) := zi_callT (by decide +kernel) (zr_S (i := 128) zX_ok rfl (zgood_37) (by decide +kernel) (zw_T zwd_124) (zw_T zwd_160) (zw_T zwd_161) ⟨by decide +kernel, by decide +kernel, by decide +kernel⟩ (by decide +kernel : decode (zYf 34).2.1 7 = .ok (.invokestatic 128, 3))) (zt_S (i := 128) zX_ok zeo_zm_34 zNC_ok rfl (zgood_37) (by decide +kernel) (zw_T zwd_124) (zw_T zwd_160) (zw_T zwd_161) ⟨by decide +kernel, by decide +kernel, by decide +kernel⟩ (by decide +kernel : decode (zYf 34).2.1 7 = .ok (.invokestatic 128, 3)))
theorem zf_zm_34_5 (env : List (Nat × Nat)) : zI9 34 zY_34 zm_34 env (10, 0, 0, 0, 0) 11 := zi_aload_n (by decide +kernel : decode zY_34.2.1 10 = .ok (.aload_n 0, 1)) rfl
theorem zf_zm_34_6 (env : List (Nat × Nat)) : zI9 34 zY_34 zm_34 env (11, 1, 0, 1, 2) 14 := zi_getf (i := 27) (N := 8) (C := "TransportPair") (ref := "TransportPair") (T := zF_0) (by decide +kernel : decode zY_34.2.1 11 = .ok (.getfield 27, 3)) rfl zuw_0 (by decide) (zw_T zwd_116) rfl
theorem zf_zm_34_7 (env : List (Nat × Nat)) : zI9 34 zY_34 zm_34 env (14, 63, 1, 0, 0) 15 := zi_iload_n (by decide +kernel : decode zY_34.2.1 14 = .ok (.iload_n 1, 1)) rfl
theorem zf_zm_34_8 (env : List (Nat × Nat)) : zI9 34 zY_34 zm_34 env (15, 19, 0, 0, 0) 16 := zi_aald zft_all (by decide +kernel : decode zY_34.2.1 15 = .ok (.aaload, 1))
theorem zf_zm_34_9 (env : List (Nat × Nat)) : zI9 34 zY_34 zm_34 env (16, 1, 10, 6, 2) 19 := zi_getf (i := 99) (N := 22) (C := "TransportPair$Side") (ref := "TransportPair$Side") (T := zF_10) (by decide +kernel : decode zY_34.2.1 16 = .ok (.getfield 99, 3)) rfl zuw_10 (by decide) (zw_T zwd_139) rfl
theorem zf_zm_34_10 (env : List (Nat × Nat)) : zI9 34 zY_34 zm_34 env (19, 63, 2, 0, 0) 20 := zi_iload_n (by decide +kernel : decode zY_34.2.1 19 = .ok (.iload_n 2, 1)) rfl
theorem zf_zm_34_11 (env : List (Nat × Nat)) : zC9 34 zm_34 env (20, 66, 98, 130, 14) := zi_call (by decide +kernel) (zr_V (i := 259) (n := 1) (q := ("TransportPair$Streams", zF_12, 21)) zX_ok rfl (zgood_98) (by decide +kernel) (zw_T zwd_149) (zw_T zwd_206) (zw_T zwd_207) rfl (zw_T zwd_208) ⟨by decide +kernel, by decide +kernel, by decide +kernel⟩ rfl (by decide +kernel : decode (zYf 34).2.1 20 = .ok (.invokevirtual 259, 3)))
theorem zf_zm_34_12 (env : List (Nat × Nat)) : zR9 34 env (23, 11, 1, 0, 0) := zi_lret (by decide +kernel : decode (zYf 34).2.1 23 = .ok (.lreturn, 1)) rfl
set_option maxRecDepth 100000 in
theorem zc_zm_34 (env : List (Nat × Nat)) : zcode zX (z_QF zEX zcl zft) (z_zm zEX zX zWL zcl zft zYf) zYf zW zET zcl zft (zGv env) 34 zm_34 zm_34.1 := ⟨Or.inl ⟨1, zf_zm_34_0 env, zpc_c⟩,
  Or.inr (Or.inr (Or.inl ⟨zf_zm_34_1 env, zpc_c⟩)),
  Or.inl ⟨5, zf_zm_34_2 env, zpc_c⟩,
  Or.inl ⟨7, zf_zm_34_3 env, zpc_c⟩,
  Or.inr (Or.inr (Or.inl ⟨zf_zm_34_4 env, zpc_c⟩)),
  Or.inl ⟨11, zf_zm_34_5 env, zpc_c⟩,
  Or.inl ⟨14, zf_zm_34_6 env, zpc_c⟩,
  Or.inl ⟨15, zf_zm_34_7 env, zpc_c⟩,
  Or.inl ⟨16, zf_zm_34_8 env, zpc_c⟩,
  Or.inl ⟨19, zf_zm_34_9 env, zpc_c⟩,
  Or.inl ⟨20, zf_zm_34_10 env, zpc_c⟩,
  Or.inr (Or.inr (Or.inl ⟨zf_zm_34_11 env, zpc_c⟩)),
  Or.inr (Or.inl (zf_zm_34_12 env)), trivial⟩
theorem zf_zm_35_0 (env : List (Nat × Nat)) : zI9 35 zY_35 zm_35 env (0, 2, 24, 0, 0) 2 := zi_bipush (by decide +kernel : decode zY_35.2.1 0 = .ok (.bipush 24, 2)) (by decide +kernel)
theorem zf_zm_35_1 (env : List (Nat × Nat)) : zI9 35 zY_35 zm_35 env (2, 10, 2, 0, 0) 3 := zi_istore_n (by decide +kernel : decode zY_35.2.1 2 = .ok (.istore_n 2, 1)) rfl (by decide)
theorem zf_zm_35_2 (env : List (Nat × Nat)) : zI9 35 zY_35 zm_35 env (3, 63, 2, 0, 0) 4 := zi_iload_n (by decide +kernel : decode zY_35.2.1 3 = .ok (.iload_n 2, 1)) rfl
theorem zf_zm_35_3 (env : List (Nat × Nat)) : zI9 35 zY_35 zm_35 env (4, 22, 21, 0, 0) 7 := zi_if_lt (off := 32) (t := 36) (by decide +kernel : decode zY_35.2.1 4 = .ok (.ifCond .lt 32, 3)) (by decide) (by decide +kernel)
theorem zf_zm_35_4 (env : List (Nat × Nat)) : zI9 35 zY_35 zm_35 env (7, 0, 0, 0, 0) 8 := zi_aload_n (by decide +kernel : decode zY_35.2.1 7 = .ok (.aload_n 0, 1)) rfl
theorem zf_zm_35_5 (env : List (Nat × Nat)) : zI9 35 zY_35 zm_35 env (8, 1, 0, 2, 2) 11 := zi_getf (i := 31) (N := 8) (C := "TransportPair") (ref := "TransportPair") (T := zF_0) (by decide +kernel : decode zY_35.2.1 8 = .ok (.getfield 31, 3)) rfl zuw_0 (by decide) (zw_T zwd_117) rfl
theorem zf_zm_35_6 (env : List (Nat × Nat)) : zI9 35 zY_35 zm_35 env (11, 0, 0, 0, 0) 12 := zi_aload_n (by decide +kernel : decode zY_35.2.1 11 = .ok (.aload_n 0, 1)) rfl
theorem zf_zm_35_7 (env : List (Nat × Nat)) : zI9 35 zY_35 zm_35 env (12, 1, 0, 3, 0) 15 := zi_getf (i := 38) (N := 8) (C := "TransportPair") (ref := "TransportPair") (T := zF_0) (by decide +kernel : decode zY_35.2.1 12 = .ok (.getfield 38, 3)) rfl zuw_0 (by decide) (zw_T zwd_119) rfl
theorem zf_zm_35_8 (env : List (Nat × Nat)) : zI9 35 zY_35 zm_35 env (15, 63, 1, 0, 0) 16 := zi_iload_n (by decide +kernel : decode zY_35.2.1 15 = .ok (.iload_n 1, 1)) rfl
theorem zf_zm_35_9 (env : List (Nat × Nat)) : zI9 35 zY_35 zm_35 env (16, 63, 2, 0, 0) 17 := zi_iload_n (by decide +kernel : decode zY_35.2.1 16 = .ok (.iload_n 2, 1)) rfl
theorem zf_zm_35_10 (env : List (Nat × Nat)) : zI9 35 zY_35 zm_35 env (17, 53, 0, 0, 0) 18 := zi_iushr (by decide +kernel : decode zY_35.2.1 17 = .ok (.iushr, 1))
theorem zf_zm_35_11 (env : List (Nat × Nat)) : zI9 35 zY_35 zm_35 env (18, 48, 0, 0, 0) 19 := zi_i2b (by decide +kernel : decode zY_35.2.1 18 = .ok (.i2b, 1))
theorem zf_zm_35_12 (env : List (Nat × Nat)) : zI9 35 zY_35 zm_35 env (19, 46, 0, 0, 0) 20 := zi_bast (by decide +kernel : decode zY_35.2.1 19 = .ok (.bastore, 1))
theorem zf_zm_35_13 (env : List (Nat × Nat)) : zI9 35 zY_35 zm_35 env (20, 0, 0, 0, 0) 21 := zi_aload_n (by decide +kernel : decode zY_35.2.1 20 = .ok (.aload_n 0, 1)) rfl
theorem zf_zm_35_14 (env : List (Nat × Nat)) : zI9 35 zY_35 zm_35 env (21, 13, 0, 0, 0) 22 := zi_dup (by decide +kernel : decode zY_35.2.1 21 = .ok (.dup, 1))
theorem zf_zm_35_15 (env : List (Nat × Nat)) : zI9 35 zY_35 zm_35 env (22, 1, 0, 3, 0) 25 := zi_getf (i := 38) (N := 8) (C := "TransportPair") (ref := "TransportPair") (T := zF_0) (by decide +kernel : decode zY_35.2.1 22 = .ok (.getfield 38, 3)) rfl zuw_0 (by decide) (zw_T zwd_119) rfl
theorem zf_zm_35_16 (env : List (Nat × Nat)) : zI9 35 zY_35 zm_35 env (25, 2, 1, 0, 0) 26 := zi_iconst (by decide +kernel : decode zY_35.2.1 25 = .ok (.iconst 1, 1)) (by decide +kernel)
theorem zf_zm_35_17 (env : List (Nat × Nat)) : zI9 35 zY_35 zm_35 env (26, 9, 0, 0, 0) 27 := zi_iadd (by decide +kernel : decode zY_35.2.1 26 = .ok (.iadd, 1))
theorem zf_zm_35_18 (env : List (Nat × Nat)) : zI9 35 zY_35 zm_35 env (27, 4, 0, 3, 0) 30 := zi_putf (i := 38) (N := 8) (C := "TransportPair") (ref := "TransportPair") (T := zF_0) (by decide +kernel : decode zY_35.2.1 27 = .ok (.putfield 38, 3)) rfl zuw_0 zFt_0 zFn_0 (by decide) (zw_T zwd_119) rfl rfl (ty := .int) (by decide +kernel) (rfl)
theorem zf_zm_35_19 (env : List (Nat × Nat)) : zI9 35 zY_35 zm_35 env (30, 35, 2, 4294967288, 0) 33 := zi_iinc (by decide +kernel : decode zY_35.2.1 30 = .ok (.iinc 2 (-8), 3)) (by decide +kernel) (by decide)
theorem zf_zm_35_20 (env : List (Nat × Nat)) : zI9 35 zY_35 zm_35 env (33, 7, 2, 0, 0) 36 := zi_goto (off := (-30)) (t := 3) (by decide +kernel : decode zY_35.2.1 33 = .ok (.goto (-30), 3)) (by decide) (by decide +kernel)
theorem zf_zm_35_21 (env : List (Nat × Nat)) : zR9 35 env (36, 21, 0, 0, 0) := zi_vret (by decide +kernel : decode (zYf 35).2.1 36 = .ok (.return_, 1)) rfl
set_option maxRecDepth 100000 in
theorem zc_zm_35 (env : List (Nat × Nat)) : zcode zX (z_QF zEX zcl zft) (z_zm zEX zX zWL zcl zft zYf) zYf zW zET zcl zft (zGv env) 35 zm_35 zm_35.1 := ⟨Or.inl ⟨2, zf_zm_35_0 env, zpc_c⟩,
  Or.inl ⟨3, zf_zm_35_1 env, zpc_c⟩,
  Or.inl ⟨4, zf_zm_35_2 env, zpc_c⟩,
  Or.inl ⟨7, zf_zm_35_3 env, zpc_c⟩,
  Or.inl ⟨8, zf_zm_35_4 env, zpc_c⟩,
  Or.inl ⟨11, zf_zm_35_5 env, zpc_c⟩,
  Or.inl ⟨12, zf_zm_35_6 env, zpc_c⟩,
  Or.inl ⟨15, zf_zm_35_7 env, zpc_c⟩,
  Or.inl ⟨16, zf_zm_35_8 env, zpc_c⟩,
  Or.inl ⟨17, zf_zm_35_9 env, zpc_c⟩,
  Or.inl ⟨18, zf_zm_35_10 env, zpc_c⟩,
  Or.inl ⟨19, zf_zm_35_11 env, zpc_c⟩,
  Or.inl ⟨20, zf_zm_35_12 env, zpc_c⟩,
  Or.inl ⟨21, zf_zm_35_13 env, zpc_c⟩,
  Or.inl ⟨22, zf_zm_35_14 env, zpc_c⟩,
  Or.inl ⟨25, zf_zm_35_15 env, zpc_c⟩,
  Or.inl ⟨26, zf_zm_35_16 env, zpc_c⟩,
  Or.inl ⟨27, zf_zm_35_17 env, zpc_c⟩,
  Or.inl ⟨30, zf_zm_35_18 env, zpc_c⟩,
  Or.inl ⟨33, zf_zm_35_19 env, zpc_c⟩,
  Or.inl ⟨36, zf_zm_35_20 env, zpc_c⟩,
  Or.inr (Or.inl (zf_zm_35_21 env)), trivial⟩
theorem zf_zm_36_0 (env : List (Nat × Nat)) : zI9 36 zY_36 zm_36 env (0, 63, 0, 0, 0) 1 := zi_iload_n (by decide +kernel : decode zY_36.2.1 0 = .ok (.iload_n 0, 1)) rfl
theorem zf_zm_36_1 (env : List (Nat × Nat)) : zI9 36 zY_36 zm_36 env (1, 5, 6, 0, 0) 4 := zi_if_eq (off := 16) (t := 17) (by decide +kernel : decode zY_36.2.1 1 = .ok (.ifCond .eq 16, 3)) (by decide) (by decide +kernel)
theorem zf_zm_36_2 (env : List (Nat × Nat)) : zI9 36 zY_36 zm_36 env (4, 63, 0, 0, 0) 5 := zi_iload_n (by decide +kernel : decode zY_36.2.1 4 = .ok (.iload_n 0, 1)) rfl
theorem zf_zm_36_3 (env : List (Nat × Nat)) : zI9 36 zY_36 zm_36 env (5, 2, 1, 0, 0) 6 := zi_iconst (by decide +kernel : decode zY_36.2.1 5 = .ok (.iconst 1, 1)) (by decide +kernel)
theorem zf_zm_36_4 (env : List (Nat × Nat)) : zI9 36 zY_36 zm_36 env (6, 20, 6, 0, 0) 9 := zi_icmp_eq (off := 11) (t := 17) (by decide +kernel : decode zY_36.2.1 6 = .ok (.if_icmp .eq 11, 3)) (by decide) (by decide +kernel)
theorem zf_zm_36_5 (env : List (Nat × Nat)) : zR9 36 env (9, 39, 1, 0, 0) := zi_throw (names := znames) (ik := 56) (ic := 58) zUS_ok zfit_1 znf (zw_T zwd_127) (zw_T zwd_128) (zat_of zrest_1 zwd_129) (zgd_of zrest_1) rfl (by decide) (by decide) (by decide +kernel : decode (zYf 36).2.1 9 = .ok (.new 56, 3)) (by decide +kernel : decode (zYf 36).2.1 12 = .ok (.dup, 1)) (by decide +kernel : decode (zYf 36).2.1 13 = .ok (.invokespecial 58, 3)) (by decide +kernel : decode (zYf 36).2.1 16 = .ok (.athrow, 1))
theorem zf_zm_36_6 (env : List (Nat × Nat)) : zR9 36 env (17, 21, 0, 0, 0) := zi_vret (by decide +kernel : decode (zYf 36).2.1 17 = .ok (.return_, 1)) rfl
set_option maxRecDepth 100000 in
theorem zc_zm_36 (env : List (Nat × Nat)) : zcode zX (z_QF zEX zcl zft) (z_zm zEX zX zWL zcl zft zYf) zYf zW zET zcl zft (zGv env) 36 zm_36 zm_36.1 := ⟨Or.inl ⟨1, zf_zm_36_0 env, zpc_c⟩,
  Or.inl ⟨4, zf_zm_36_1 env, zpc_c⟩,
  Or.inl ⟨5, zf_zm_36_2 env, zpc_c⟩,
  Or.inl ⟨6, zf_zm_36_3 env, zpc_c⟩,
  Or.inl ⟨9, zf_zm_36_4 env, zpc_c⟩,
  Or.inr (Or.inl (zf_zm_36_5 env)),
  Or.inr (Or.inl (zf_zm_36_6 env)), trivial⟩
theorem zf_zm_37_0 (env : List (Nat × Nat)) : zI9 37 zY_37 zm_37 env (0, 63, 0, 0, 0) 1 := zi_iload_n (by decide +kernel : decode zY_37.2.1 0 = .ok (.iload_n 0, 1)) rfl
theorem zf_zm_37_1 (env : List (Nat × Nat)) : zI9 37 zY_37 zm_37 env (1, 22, 5, 0, 0) 4 := zi_if_lt (off := 8) (t := 9) (by decide +kernel : decode zY_37.2.1 1 = .ok (.ifCond .lt 8, 3)) (by decide) (by decide +kernel)
theorem zf_zm_37_2 (env : List (Nat × Nat)) : zI9 37 zY_37 zm_37 env (4, 63, 0, 0, 0) 5 := zi_iload_n (by decide +kernel : decode zY_37.2.1 4 = .ok (.iload_n 0, 1)) rfl
theorem zf_zm_37_3 (env : List (Nat × Nat)) : zI9 37 zY_37 zm_37 env (5, 63, 1, 0, 0) 6 := zi_iload_n (by decide +kernel : decode zY_37.2.1 5 = .ok (.iload_n 1, 1)) rfl
theorem zf_zm_37_4 (env : List (Nat × Nat)) : zI9 37 zY_37 zm_37 env (6, 27, 6, 0, 0) 9 := zi_icmp_le (off := 11) (t := 17) (by decide +kernel : decode zY_37.2.1 6 = .ok (.if_icmp .le 11, 3)) (by decide) (by decide +kernel)
theorem zf_zm_37_5 (env : List (Nat × Nat)) : zR9 37 env (9, 39, 1, 0, 0) := zi_throw (names := znames) (ik := 56) (ic := 58) zUS_ok zfit_1 znf (zw_T zwd_127) (zw_T zwd_128) (zat_of zrest_1 zwd_129) (zgd_of zrest_1) rfl (by decide) (by decide) (by decide +kernel : decode (zYf 37).2.1 9 = .ok (.new 56, 3)) (by decide +kernel : decode (zYf 37).2.1 12 = .ok (.dup, 1)) (by decide +kernel : decode (zYf 37).2.1 13 = .ok (.invokespecial 58, 3)) (by decide +kernel : decode (zYf 37).2.1 16 = .ok (.athrow, 1))
theorem zf_zm_37_6 (env : List (Nat × Nat)) : zR9 37 env (17, 21, 0, 0, 0) := zi_vret (by decide +kernel : decode (zYf 37).2.1 17 = .ok (.return_, 1)) rfl
set_option maxRecDepth 100000 in
theorem zc_zm_37 (env : List (Nat × Nat)) : zcode zX (z_QF zEX zcl zft) (z_zm zEX zX zWL zcl zft zYf) zYf zW zET zcl zft (zGv env) 37 zm_37 zm_37.1 := ⟨Or.inl ⟨1, zf_zm_37_0 env, zpc_c⟩,
  Or.inl ⟨4, zf_zm_37_1 env, zpc_c⟩,
  Or.inl ⟨5, zf_zm_37_2 env, zpc_c⟩,
  Or.inl ⟨6, zf_zm_37_3 env, zpc_c⟩,
  Or.inl ⟨9, zf_zm_37_4 env, zpc_c⟩,
  Or.inr (Or.inl (zf_zm_37_5 env)),
  Or.inr (Or.inl (zf_zm_37_6 env)), trivial⟩
theorem zf_zm_38_0 (env : List (Nat × Nat)) : zI9 38 zY_38 zm_38 env (0, 0, 0, 0, 0) 1 := zi_aload_n (by decide +kernel : decode zY_38.2.1 0 = .ok (.aload_n 0, 1)) rfl
theorem zf_zm_38_1 (env : List (Nat × Nat)) : zI9 38 zY_38 zm_38 env (1, 1, 0, 1, 2) 4 := zi_getf (i := 27) (N := 8) (C := "TransportPair") (ref := "TransportPair") (T := zF_0) (by decide +kernel : decode zY_38.2.1 1 = .ok (.getfield 27, 3)) rfl zuw_0 (by decide) (zw_T zwd_116) rfl
theorem zf_zm_38_2 (env : List (Nat × Nat)) : zI9 38 zY_38 zm_38 env (4, 63, 1, 0, 0) 5 := zi_iload_n (by decide +kernel : decode zY_38.2.1 4 = .ok (.iload_n 1, 1)) rfl
theorem zf_zm_38_3 (env : List (Nat × Nat)) : zI9 38 zY_38 zm_38 env (5, 19, 0, 0, 0) 6 := zi_aald zft_all (by decide +kernel : decode zY_38.2.1 5 = .ok (.aaload, 1))
theorem zf_zm_38_4 (env : List (Nat × Nat)) : zI9 38 zY_38 zm_38 env (6, 1, 10, 10, 0) 9 := zi_getf (i := 161) (N := 22) (C := "TransportPair$Side") (ref := "TransportPair$Side") (T := zF_10) (by decide +kernel : decode zY_38.2.1 6 = .ok (.getfield 161, 3)) rfl zuw_10 (by decide) (zw_T zwd_209) rfl
theorem zf_zm_38_5 (env : List (Nat × Nat)) : zI9 38 zY_38 zm_38 env (9, 5, 7, 0, 0) 12 := zi_if_eq (off := 11) (t := 20) (by decide +kernel : decode zY_38.2.1 9 = .ok (.ifCond .eq 11, 3)) (by decide) (by decide +kernel)
theorem zf_zm_38_6 (env : List (Nat × Nat)) : zI9 38 zY_38 zm_38 env (12, 99, 0, 0, 0) 20 := zi_none
theorem zf_zm_38_7 (env : List (Nat × Nat)) : zR9 38 env (20, 21, 0, 0, 0) := zi_vret (by decide +kernel : decode (zYf 38).2.1 20 = .ok (.return_, 1)) rfl
set_option maxRecDepth 100000 in
theorem zc_zm_38 (env : List (Nat × Nat)) : zcode zX (z_QF zEX zcl zft) (z_zm zEX zX zWL zcl zft zYf) zYf zW zET zcl zft (zGv env) 38 zm_38 zm_38.1 := ⟨Or.inl ⟨1, zf_zm_38_0 env, zpc_c⟩,
  Or.inl ⟨4, zf_zm_38_1 env, zpc_c⟩,
  Or.inl ⟨5, zf_zm_38_2 env, zpc_c⟩,
  Or.inl ⟨6, zf_zm_38_3 env, zpc_c⟩,
  Or.inl ⟨9, zf_zm_38_4 env, zpc_c⟩,
  Or.inl ⟨12, zf_zm_38_5 env, zpc_c⟩,
  Or.inl ⟨20, zf_zm_38_6 env, zpc_c⟩,
  Or.inr (Or.inl (zf_zm_38_7 env)), trivial⟩
theorem zf_zm_39_0 (env : List (Nat × Nat)) : zI9 39 zY_39 zm_39 env (0, 63, 1, 0, 0) 1 := zi_iload_n (by decide +kernel : decode zY_39.2.1 0 = .ok (.iload_n 1, 1)) rfl
theorem zf_zm_39_1 (env : List (Nat × Nat)) : zC9 39 zm_39 env (1, 3, 36, 65, 0) := zi_callT (by decide +kernel) (zr_S (i := 87) zX_ok rfl (zgood_36) (by decide +kernel) (zw_T zwd_124) (zw_T zwd_132) (zw_T zwd_133) ⟨by decide +kernel, by decide +kernel, by decide +kernel⟩ (by decide +kernel : decode (zYf 39).2.1 1 = .ok (.invokestatic 87, 3))) (zt_S (i := 87) zX_ok zeo_zm_39 zNC_ok rfl (zgood_36) (by decide +kernel) (zw_T zwd_124) (zw_T zwd_132) (zw_T zwd_133) ⟨by decide +kernel, by decide +kernel, by decide +kernel⟩ (by decide +kernel : decode (zYf 39).2.1 1 = .ok (.invokestatic 87, 3)))
theorem zf_zm_39_2 (env : List (Nat × Nat)) : zI9 39 zY_39 zm_39 env (4, 0, 0, 0, 0) 5 := zi_aload_n (by decide +kernel : decode zY_39.2.1 4 = .ok (.aload_n 0, 1)) rfl
theorem zf_zm_39_3 (env : List (Nat × Nat)) : zI9 39 zY_39 zm_39 env (5, 1, 0, 3, 0) 8 := zi_getf (i := 38) (N := 8) (C := "TransportPair") (ref := "TransportPair") (T := zF_0) (by decide +kernel : decode zY_39.2.1 5 = .ok (.getfield 38, 3)) rfl zuw_0 (by decide) (zw_T zwd_119) rfl
theorem zf_zm_39_4 (env : List (Nat × Nat)) : zI9 39 zY_39 zm_39 env (8, 2, 32, 0, 0) 10 := zi_bipush (by decide +kernel : decode zY_39.2.1 8 = .ok (.bipush 32, 2)) (by decide +kernel)
theorem zf_zm_39_5 (env : List (Nat × Nat)) : zI9 39 zY_39 zm_39 env (10, 20, 7, 0, 0) 13 := zi_icmp_eq (off := 11) (t := 21) (by decide +kernel : decode zY_39.2.1 10 = .ok (.if_icmp .eq 11, 3)) (by decide) (by decide +kernel)
theorem zf_zm_39_6 (env : List (Nat × Nat)) : zR9 39 env (13, 39, 1, 0, 0) := zi_throw (names := znames) (ik := 56) (ic := 58) zUS_ok zfit_1 znf (zw_T zwd_127) (zw_T zwd_128) (zat_of zrest_1 zwd_129) (zgd_of zrest_1) rfl (by decide) (by decide) (by decide +kernel : decode (zYf 39).2.1 13 = .ok (.new 56, 3)) (by decide +kernel : decode (zYf 39).2.1 16 = .ok (.dup, 1)) (by decide +kernel : decode (zYf 39).2.1 17 = .ok (.invokespecial 58, 3)) (by decide +kernel : decode (zYf 39).2.1 20 = .ok (.athrow, 1))
theorem zf_zm_39_7 (env : List (Nat × Nat)) : zI9 39 zY_39 zm_39 env (21, 99, 0, 0, 0) 0 := zi_none
set_option maxRecDepth 100000 in
theorem zc_zm_39 (env : List (Nat × Nat)) : zcode zX (z_QF zEX zcl zft) (z_zm zEX zX zWL zcl zft zYf) zYf zW zET zcl zft (zGv env) 39 zm_39 zm_39.1 := ⟨Or.inl ⟨1, zf_zm_39_0 env, zpc_c⟩,
  Or.inr (Or.inr (Or.inl ⟨zf_zm_39_1 env, zpc_c⟩)),
  Or.inl ⟨5, zf_zm_39_2 env, zpc_c⟩,
  Or.inl ⟨8, zf_zm_39_3 env, zpc_c⟩,
  Or.inl ⟨10, zf_zm_39_4 env, zpc_c⟩,
  Or.inl ⟨13, zf_zm_39_5 env, zpc_c⟩,
  Or.inr (Or.inl (zf_zm_39_6 env)),
  Or.inl ⟨0, zf_zm_39_7 env, zpc_n⟩, trivial⟩
theorem zf_zm_40_0 (env : List (Nat × Nat)) : zI9 40 zY_40 zm_40 env (0, 63, 1, 0, 0) 1 := zi_iload_n (by decide +kernel : decode zY_40.2.1 0 = .ok (.iload_n 1, 1)) rfl
theorem zf_zm_40_1 (env : List (Nat × Nat)) : zC9 40 zm_40 env (1, 3, 36, 65, 0) := zi_callT (by decide +kernel) (zr_S (i := 87) zX_ok rfl (zgood_36) (by decide +kernel) (zw_T zwd_124) (zw_T zwd_132) (zw_T zwd_133) ⟨by decide +kernel, by decide +kernel, by decide +kernel⟩ (by decide +kernel : decode (zYf 40).2.1 1 = .ok (.invokestatic 87, 3))) (zt_S (i := 87) zX_ok zeo_zm_40 zNC_ok rfl (zgood_36) (by decide +kernel) (zw_T zwd_124) (zw_T zwd_132) (zw_T zwd_133) ⟨by decide +kernel, by decide +kernel, by decide +kernel⟩ (by decide +kernel : decode (zYf 40).2.1 1 = .ok (.invokestatic 87, 3)))
theorem zf_zm_40_2 (env : List (Nat × Nat)) : zI9 40 zY_40 zm_40 env (4, 63, 2, 0, 0) 5 := zi_iload_n (by decide +kernel : decode zY_40.2.1 4 = .ok (.iload_n 2, 1)) rfl
theorem zf_zm_40_3 (env : List (Nat × Nat)) : zI9 40 zY_40 zm_40 env (5, 22, 11, 0, 0) 8 := zi_if_lt (off := 16) (t := 21) (by decide +kernel : decode zY_40.2.1 5 = .ok (.ifCond .lt 16, 3)) (by decide) (by decide +kernel)
theorem zf_zm_40_4 (env : List (Nat × Nat)) : zI9 40 zY_40 zm_40 env (8, 63, 2, 0, 0) 9 := zi_iload_n (by decide +kernel : decode zY_40.2.1 8 = .ok (.iload_n 2, 1)) rfl
theorem zf_zm_40_5 (env : List (Nat × Nat)) : zI9 40 zY_40 zm_40 env (9, 0, 0, 0, 0) 10 := zi_aload_n (by decide +kernel : decode zY_40.2.1 9 = .ok (.aload_n 0, 1)) rfl
theorem zf_zm_40_6 (env : List (Nat × Nat)) : zI9 40 zY_40 zm_40 env (10, 1, 0, 0, 2) 13 := zi_getf (i := 16) (N := 8) (C := "TransportPair") (ref := "TransportPair") (T := zF_0) (by decide +kernel : decode zY_40.2.1 10 = .ok (.getfield 16, 3)) rfl zuw_0 (by decide) (zw_T zwd_109) rfl
theorem zf_zm_40_7 (env : List (Nat × Nat)) : zI9 40 zY_40 zm_40 env (13, 63, 1, 0, 0) 14 := zi_iload_n (by decide +kernel : decode zY_40.2.1 13 = .ok (.iload_n 1, 1)) rfl
theorem zf_zm_40_8 (env : List (Nat × Nat)) : zI9 40 zY_40 zm_40 env (14, 19, 0, 0, 0) 15 := zi_aald zft_all (by decide +kernel : decode zY_40.2.1 14 = .ok (.aaload, 1))
theorem zf_zm_40_9 (env : List (Nat × Nat)) : zI9 40 zY_40 zm_40 env (15, 1, 4, 4, 0) 18 := zi_getf (i := 203) (N := 7) (C := "TransportPair$Line") (ref := "TransportPair$Line") (T := zF_4) (by decide +kernel : decode zY_40.2.1 15 = .ok (.getfield 203, 3)) rfl zuw_4 (by decide) (zw_T zwd_185) rfl
theorem zf_zm_40_10 (env : List (Nat × Nat)) : zI9 40 zY_40 zm_40 env (18, 30, 12, 0, 0) 21 := zi_icmp_lt (off := 11) (t := 29) (by decide +kernel : decode zY_40.2.1 18 = .ok (.if_icmp .lt 11, 3)) (by decide) (by decide +kernel)
theorem zf_zm_40_11 (env : List (Nat × Nat)) : zR9 40 env (21, 39, 2, 0, 0) := zi_throw (names := znames) (ik := 152) (ic := 154) zUS_ok zfit_2 znf (zw_T zwd_176) (zw_T zwd_177) (zat_of zrest_2 zwd_178) (zgd_of zrest_2) rfl (by decide) (by decide) (by decide +kernel : decode (zYf 40).2.1 21 = .ok (.new 152, 3)) (by decide +kernel : decode (zYf 40).2.1 24 = .ok (.dup, 1)) (by decide +kernel : decode (zYf 40).2.1 25 = .ok (.invokespecial 154, 3)) (by decide +kernel : decode (zYf 40).2.1 28 = .ok (.athrow, 1))
theorem zf_zm_40_12 (env : List (Nat × Nat)) : zI9 40 zY_40 zm_40 env (29, 99, 0, 0, 0) 0 := zi_none
set_option maxRecDepth 100000 in
theorem zc_zm_40 (env : List (Nat × Nat)) : zcode zX (z_QF zEX zcl zft) (z_zm zEX zX zWL zcl zft zYf) zYf zW zET zcl zft (zGv env) 40 zm_40 zm_40.1 := ⟨Or.inl ⟨1, zf_zm_40_0 env, zpc_c⟩,
  Or.inr (Or.inr (Or.inl ⟨zf_zm_40_1 env, zpc_c⟩)),
  Or.inl ⟨5, zf_zm_40_2 env, zpc_c⟩,
  Or.inl ⟨8, zf_zm_40_3 env, zpc_c⟩,
  Or.inl ⟨9, zf_zm_40_4 env, zpc_c⟩,
  Or.inl ⟨10, zf_zm_40_5 env, zpc_c⟩,
  Or.inl ⟨13, zf_zm_40_6 env, zpc_c⟩,
  Or.inl ⟨14, zf_zm_40_7 env, zpc_c⟩,
  Or.inl ⟨15, zf_zm_40_8 env, zpc_c⟩,
  Or.inl ⟨18, zf_zm_40_9 env, zpc_c⟩,
  Or.inl ⟨21, zf_zm_40_10 env, zpc_c⟩,
  Or.inr (Or.inl (zf_zm_40_11 env)),
  Or.inl ⟨0, zf_zm_40_12 env, zpc_n⟩, trivial⟩
theorem zf_zm_41_0 (env : List (Nat × Nat)) : zI9 41 zY_41 zm_41 env (0, 0, 0, 0, 0) 1 := zi_aload_n (by decide +kernel : decode zY_41.2.1 0 = .ok (.aload_n 0, 1)) rfl
theorem zf_zm_41_1 (env : List (Nat × Nat)) : zI9 41 zY_41 zm_41 env (1, 60, 0, 0, 0) 4 := zi_obj (i := 1) (by decide +kernel : decode zY_41.2.1 1 = .ok (.invokespecial 1, 3)) (zw_T zwd_210) (zw_T zwd_11) (zw_T zwd_12)
theorem zf_zm_41_2 (env : List (Nat × Nat)) : zI9 41 zY_41 zm_41 env (4, 0, 0, 0, 0) 5 := zi_aload_n (by decide +kernel : decode zY_41.2.1 4 = .ok (.aload_n 0, 1)) rfl
theorem zf_zm_41_3 (env : List (Nat × Nat)) : zI9 41 zY_41 zm_41 env (5, 2, 65536, 0, 0) 7 := zi_ldc (v := 65536) (by decide +kernel : decode zY_41.2.1 5 = .ok (.ldc 7, 2)) (by decide +kernel) (zw_T zwd_211)
theorem zf_zm_41_4 (env : List (Nat × Nat)) : zI9 41 zY_41 zm_41 env (7, 12, 0, 1, 0) 9 := zi_newI (by decide +kernel : decode zY_41.2.1 7 = .ok (.newarray .byte, 2)) (zw_T zwd_79) rfl rfl (by decide) rfl
theorem zf_zm_41_5 (env : List (Nat × Nat)) : zI9 41 zY_41 zm_41 env (9, 4, 1, 1, 2) 12 := zi_putfF (i := 8) (N := 23) (C := "TransportPairModel") (ref := "TransportPairModel") (T := zF_1) (by decide +kernel : decode zY_41.2.1 9 = .ok (.putfield 8, 3)) rfl zuw_1 zFt_1 zFn_1 (by decide) (zw_T zwd_212) rfl rfl rfl rfl (ty := .array .byte) (by decide +kernel) (Or.inr ⟨_, rfl⟩)
theorem zf_zm_41_6 (env : List (Nat × Nat)) : zI9 41 zY_41 zm_41 env (12, 0, 0, 0, 0) 13 := zi_aload_n (by decide +kernel : decode zY_41.2.1 12 = .ok (.aload_n 0, 1)) rfl
theorem zf_zm_41_7 (env : List (Nat × Nat)) : zI9 41 zY_41 zm_41 env (13, 2, 2048, 0, 0) 16 := zi_sipush (by decide +kernel : decode zY_41.2.1 13 = .ok (.sipush 2048, 3)) (by decide +kernel)
theorem zf_zm_41_8 (env : List (Nat × Nat)) : zI9 41 zY_41 zm_41 env (16, 12, 0, 0, 0) 18 := zi_newI (by decide +kernel : decode zY_41.2.1 16 = .ok (.newarray .int, 2)) (zw_T zwd_16) rfl rfl (by decide) rfl
theorem zf_zm_41_9 (env : List (Nat × Nat)) : zI9 41 zY_41 zm_41 env (18, 4, 1, 3, 2) 21 := zi_putfF (i := 14) (N := 23) (C := "TransportPairModel") (ref := "TransportPairModel") (T := zF_1) (by decide +kernel : decode zY_41.2.1 18 = .ok (.putfield 14, 3)) rfl zuw_1 zFt_1 zFn_1 (by decide) (zw_T zwd_213) rfl rfl rfl rfl (ty := .array .int) (by decide +kernel) (Or.inr ⟨_, rfl⟩)
theorem zf_zm_41_10 (env : List (Nat × Nat)) : zI9 41 zY_41 zm_41 env (21, 0, 0, 0, 0) 22 := zi_aload_n (by decide +kernel : decode zY_41.2.1 21 = .ok (.aload_n 0, 1)) rfl
theorem zf_zm_41_11 (env : List (Nat × Nat)) : zI9 41 zY_41 zm_41 env (22, 17, 17, 0, 25) 25 := zi_new (i := 18) (N := 25) (C := "TransportPairModel$Seals") (T := zF_17) (ds := [2, 2, 2, 2, 2, 2, 2, 2, 2, 2, 2, 0, 2, 0, 2, 2, 2, 2, 2, 2, 2, 2, 2, 2, 2]) (by decide +kernel : decode zY_41.2.1 22 = .ok (.new 18, 3)) rfl zuw_17 zFt_17 (zw_T zwd_214) (zw_T zwd_215) (zw_T zwd_4) rfl rfl rfl zFd_17
theorem zf_zm_41_12 (env : List (Nat × Nat)) : zI9 41 zY_41 zm_41 env (25, 13, 0, 0, 0) 26 := zi_dup (by decide +kernel : decode zY_41.2.1 25 = .ok (.dup, 1))
theorem zf_zm_41_13 (env : List (Nat × Nat)) : zC9 41 zm_41 env (26, 66, 5, 67, 1) := zi_call (by decide +kernel) (zr_I (i := 20) (n := 0) zX_ok rfl (zgood_5) (by decide +kernel) (zw_T zwd_4) (zw_T zwd_216) rfl (zw_T zwd_217) rfl ⟨by decide +kernel, by decide +kernel, by decide +kernel⟩ rfl (by decide +kernel : decode (zYf 41).2.1 26 = .ok (.invokespecial 20, 3)))
theorem zf_zm_41_14 (env : List (Nat × Nat)) : zI9 41 zY_41 zm_41 env (29, 4, 1, 5, 2) 32 := zi_putfF (i := 21) (N := 23) (C := "TransportPairModel") (ref := "TransportPairModel") (T := zF_1) (by decide +kernel : decode zY_41.2.1 29 = .ok (.putfield 21, 3)) rfl zuw_1 zFt_1 zFn_1 (by decide) (zw_T zwd_218) rfl rfl rfl rfl (ty := .object "TransportPairModel$Seals") (by decide +kernel) (Or.inl ⟨_, rfl⟩)
theorem zf_zm_41_15 (env : List (Nat × Nat)) : zI9 41 zY_41 zm_41 env (32, 0, 0, 0, 0) 33 := zi_aload_n (by decide +kernel : decode zY_41.2.1 32 = .ok (.aload_n 0, 1)) rfl
theorem zf_zm_41_16 (env : List (Nat × Nat)) : zI9 41 zY_41 zm_41 env (33, 17, 19, 0, 56) 36 := zi_new (i := 25) (N := 56) (C := "TransportPairModel$Streams") (T := zF_19) (ds := [2, 2, 2, 2, 2, 2, 2, 2, 2, 2, 2, 2, 2, 2, 2, 2, 2, 2, 2, 2, 2, 2, 2, 2, 2, 2, 2, 2, 2, 2, 2, 2, 2, 2, 2, 2, 2, 2, 2, 2, 2, 2, 2, 2, 2, 2, 2, 2, 2, 2, 0, 1, 1, 1, 0, 2]) (by decide +kernel : decode zY_41.2.1 33 = .ok (.new 25, 3)) rfl zuw_19 zFt_19 (zw_T zwd_219) (zw_T zwd_220) (zw_T zwd_221) rfl rfl rfl zFd_19
theorem zf_zm_41_17 (env : List (Nat × Nat)) : zI9 41 zY_41 zm_41 env (36, 13, 0, 0, 0) 37 := zi_dup (by decide +kernel : decode zY_41.2.1 36 = .ok (.dup, 1))
theorem zf_zm_41_18 (env : List (Nat × Nat)) : zC9 41 zm_41 env (37, 66, 6, 67, 1) := zi_call (by decide +kernel) (zr_I (i := 27) (n := 0) zX_ok rfl (zgood_6) (by decide +kernel) (zw_T zwd_221) (zw_T zwd_222) rfl (zw_T zwd_223) rfl ⟨by decide +kernel, by decide +kernel, by decide +kernel⟩ rfl (by decide +kernel : decode (zYf 41).2.1 37 = .ok (.invokespecial 27, 3)))
theorem zf_zm_41_19 (env : List (Nat × Nat)) : zI9 41 zY_41 zm_41 env (40, 4, 1, 6, 2) 43 := zi_putfF (i := 28) (N := 23) (C := "TransportPairModel") (ref := "TransportPairModel") (T := zF_1) (by decide +kernel : decode zY_41.2.1 40 = .ok (.putfield 28, 3)) rfl zuw_1 zFt_1 zFn_1 (by decide) (zw_T zwd_224) rfl rfl rfl rfl (ty := .object "TransportPairModel$Streams") (by decide +kernel) (Or.inl ⟨_, rfl⟩)
theorem zf_zm_41_20 (env : List (Nat × Nat)) : zI9 41 zY_41 zm_41 env (43, 0, 0, 0, 0) 44 := zi_aload_n (by decide +kernel : decode zY_41.2.1 43 = .ok (.aload_n 0, 1)) rfl
theorem zf_zm_41_21 (env : List (Nat × Nat)) : zI9 41 zY_41 zm_41 env (44, 2, 2, 0, 0) 45 := zi_iconst (by decide +kernel : decode zY_41.2.1 44 = .ok (.iconst 2, 1)) (by decide +kernel)
theorem zf_zm_41_22 (env : List (Nat × Nat)) : zI9 41 zY_41 zm_41 env (45, 38, 0, 6, 0) 48 := zi_newA (i := 32) (C := "TransportPairModel$Side") (by decide +kernel : decode zY_41.2.1 45 = .ok (.anewarray 32, 3)) (zw_T zwd_225) (zw_N zwd_226) (fun _ _ _ h => h) rfl
theorem zf_zm_41_23 (env : List (Nat × Nat)) : zI9 41 zY_41 zm_41 env (48, 13, 0, 0, 0) 49 := zi_dup (by decide +kernel : decode zY_41.2.1 48 = .ok (.dup, 1))
theorem zf_zm_41_24 (env : List (Nat × Nat)) : zI9 41 zY_41 zm_41 env (49, 2, 0, 0, 0) 50 := zi_iconst (by decide +kernel : decode zY_41.2.1 49 = .ok (.iconst 0, 1)) (by decide +kernel)
theorem zf_zm_41_25 (env : List (Nat × Nat)) : zI9 41 zY_41 zm_41 env (50, 17, 18, 0, 53) 53 := zi_new (i := 32) (N := 53) (C := "TransportPairModel$Side") (T := zF_18) (ds := [0, 2, 2, 2, 2, 2, 0, 0, 0, 0, 0, 0, 0, 2, 0, 0, 2, 0, 2, 2, 2, 2, 2, 2, 0, 2, 2, 2, 2, 2, 0, 0, 0, 1, 2, 0, 0, 0, 0, 0, 0, 0, 2, 0, 2, 2, 2, 2, 2, 2, 2, 0, 2]) (by decide +kernel : decode zY_41.2.1 50 = .ok (.new 32, 3)) rfl zuw_18 zFt_18 (zw_T zwd_225) (zw_T zwd_227) (zw_T zwd_228) rfl rfl rfl zFd_18
theorem zf_zm_41_26 (env : List (Nat × Nat)) : zI9 41 zY_41 zm_41 env (53, 13, 0, 0, 0) 54 := zi_dup (by decide +kernel : decode zY_41.2.1 53 = .ok (.dup, 1))
theorem zf_zm_41_27 (env : List (Nat × Nat)) : zI9 41 zY_41 zm_41 env (54, 2, 0, 0, 0) 55 := zi_iconst (by decide +kernel : decode zY_41.2.1 54 = .ok (.iconst 0, 1)) (by decide +kernel)
theorem zf_zm_41_28 (env : List (Nat × Nat)) : zI9 41 zY_41 zm_41 env (55, 0, 0, 0, 0) 56 := zi_aload_n (by decide +kernel : decode zY_41.2.1 55 = .ok (.aload_n 0, 1)) rfl
theorem zf_zm_41_29 (env : List (Nat × Nat)) : zI9 41 zY_41 zm_41 env (56, 1, 1, 5, 2) 59 := zi_getf (i := 21) (N := 23) (C := "TransportPairModel") (ref := "TransportPairModel") (T := zF_1) (by decide +kernel : decode zY_41.2.1 56 = .ok (.getfield 21, 3)) rfl zuw_1 (by decide) (zw_T zwd_218) rfl
theorem zf_zm_41_30 (env : List (Nat × Nat)) : zI9 41 zY_41 zm_41 env (59, 0, 0, 0, 0) 60 := zi_aload_n (by decide +kernel : decode zY_41.2.1 59 = .ok (.aload_n 0, 1)) rfl
theorem zf_zm_41_31 (env : List (Nat × Nat)) : zI9 41 zY_41 zm_41 env (60, 1, 1, 6, 2) 63 := zi_getf (i := 28) (N := 23) (C := "TransportPairModel") (ref := "TransportPairModel") (T := zF_1) (by decide +kernel : decode zY_41.2.1 60 = .ok (.getfield 28, 3)) rfl zuw_1 (by decide) (zw_T zwd_224) rfl
theorem zf_zm_41_32 (env : List (Nat × Nat)) : zC9 41 zm_41 env (63, 66, 121, 260, 1) := zi_call (by decide +kernel) (zr_I (i := 34) (n := 3) zX_ok rfl (zgood_121) (by decide +kernel) (zw_T zwd_228) (zw_T zwd_229) rfl (zw_T zwd_230) rfl ⟨by decide +kernel, by decide +kernel, by decide +kernel⟩ rfl (by decide +kernel : decode (zYf 41).2.1 63 = .ok (.invokespecial 34, 3)))
theorem zf_zm_41_33 (env : List (Nat × Nat)) : zI9 41 zY_41 zm_41 env (66, 33, 0, 0, 0) 67 := zi_aast zft_all (by decide +kernel : decode zY_41.2.1 66 = .ok (.aastore, 1))
theorem zf_zm_41_34 (env : List (Nat × Nat)) : zI9 41 zY_41 zm_41 env (67, 13, 0, 0, 0) 68 := zi_dup (by decide +kernel : decode zY_41.2.1 67 = .ok (.dup, 1))
theorem zf_zm_41_35 (env : List (Nat × Nat)) : zI9 41 zY_41 zm_41 env (68, 2, 1, 0, 0) 69 := zi_iconst (by decide +kernel : decode zY_41.2.1 68 = .ok (.iconst 1, 1)) (by decide +kernel)
theorem zf_zm_41_36 (env : List (Nat × Nat)) : zI9 41 zY_41 zm_41 env (69, 17, 18, 0, 53) 72 := zi_new (i := 32) (N := 53) (C := "TransportPairModel$Side") (T := zF_18) (ds := [0, 2, 2, 2, 2, 2, 0, 0, 0, 0, 0, 0, 0, 2, 0, 0, 2, 0, 2, 2, 2, 2, 2, 2, 0, 2, 2, 2, 2, 2, 0, 0, 0, 1, 2, 0, 0, 0, 0, 0, 0, 0, 2, 0, 2, 2, 2, 2, 2, 2, 2, 0, 2]) (by decide +kernel : decode zY_41.2.1 69 = .ok (.new 32, 3)) rfl zuw_18 zFt_18 (zw_T zwd_225) (zw_T zwd_227) (zw_T zwd_228) rfl rfl rfl zFd_18
theorem zf_zm_41_37 (env : List (Nat × Nat)) : zI9 41 zY_41 zm_41 env (72, 13, 0, 0, 0) 73 := zi_dup (by decide +kernel : decode zY_41.2.1 72 = .ok (.dup, 1))
theorem zf_zm_41_38 (env : List (Nat × Nat)) : zI9 41 zY_41 zm_41 env (73, 2, 1, 0, 0) 74 := zi_iconst (by decide +kernel : decode zY_41.2.1 73 = .ok (.iconst 1, 1)) (by decide +kernel)
theorem zf_zm_41_39 (env : List (Nat × Nat)) : zI9 41 zY_41 zm_41 env (74, 0, 0, 0, 0) 75 := zi_aload_n (by decide +kernel : decode zY_41.2.1 74 = .ok (.aload_n 0, 1)) rfl
theorem zf_zm_41_40 (env : List (Nat × Nat)) : zI9 41 zY_41 zm_41 env (75, 1, 1, 5, 2) 78 := zi_getf (i := 21) (N := 23) (C := "TransportPairModel") (ref := "TransportPairModel") (T := zF_1) (by decide +kernel : decode zY_41.2.1 75 = .ok (.getfield 21, 3)) rfl zuw_1 (by decide) (zw_T zwd_218) rfl
theorem zf_zm_41_41 (env : List (Nat × Nat)) : zI9 41 zY_41 zm_41 env (78, 0, 0, 0, 0) 79 := zi_aload_n (by decide +kernel : decode zY_41.2.1 78 = .ok (.aload_n 0, 1)) rfl
theorem zf_zm_41_42 (env : List (Nat × Nat)) : zI9 41 zY_41 zm_41 env (79, 1, 1, 6, 2) 82 := zi_getf (i := 28) (N := 23) (C := "TransportPairModel") (ref := "TransportPairModel") (T := zF_1) (by decide +kernel : decode zY_41.2.1 79 = .ok (.getfield 28, 3)) rfl zuw_1 (by decide) (zw_T zwd_224) rfl
theorem zf_zm_41_43 (env : List (Nat × Nat)) : zC9 41 zm_41 env (82, 66, 121, 260, 1) := zi_call (by decide +kernel) (zr_I (i := 34) (n := 3) zX_ok rfl (zgood_121) (by decide +kernel) (zw_T zwd_228) (zw_T zwd_229) rfl (zw_T zwd_230) rfl ⟨by decide +kernel, by decide +kernel, by decide +kernel⟩ rfl (by decide +kernel : decode (zYf 41).2.1 82 = .ok (.invokespecial 34, 3)))
theorem zf_zm_41_44 (env : List (Nat × Nat)) : zI9 41 zY_41 zm_41 env (85, 33, 0, 0, 0) 86 := zi_aast zft_all (by decide +kernel : decode zY_41.2.1 85 = .ok (.aastore, 1))
theorem zf_zm_41_45 (env : List (Nat × Nat)) : zI9 41 zY_41 zm_41 env (86, 4, 1, 7, 2) 89 := zi_putfF (i := 37) (N := 23) (C := "TransportPairModel") (ref := "TransportPairModel") (T := zF_1) (by decide +kernel : decode zY_41.2.1 86 = .ok (.putfield 37, 3)) rfl zuw_1 zFt_1 zFn_1 (by decide) (zw_T zwd_231) rfl rfl rfl rfl (ty := .array (.object "TransportPairModel$Side")) (by decide +kernel) (Or.inr ⟨_, rfl⟩)
theorem zf_zm_41_46 (env : List (Nat × Nat)) : zI9 41 zY_41 zm_41 env (89, 0, 0, 0, 0) 90 := zi_aload_n (by decide +kernel : decode zY_41.2.1 89 = .ok (.aload_n 0, 1)) rfl
theorem zf_zm_41_47 (env : List (Nat × Nat)) : zI9 41 zY_41 zm_41 env (90, 2, 2, 0, 0) 91 := zi_iconst (by decide +kernel : decode zY_41.2.1 90 = .ok (.iconst 2, 1)) (by decide +kernel)
theorem zf_zm_41_48 (env : List (Nat × Nat)) : zI9 41 zY_41 zm_41 env (91, 12, 0, 0, 0) 93 := zi_newI (by decide +kernel : decode zY_41.2.1 91 = .ok (.newarray .int, 2)) (zw_T zwd_16) rfl rfl (by decide) rfl
theorem zf_zm_41_49 (env : List (Nat × Nat)) : zI9 41 zY_41 zm_41 env (93, 4, 1, 10, 2) 96 := zi_putfF (i := 41) (N := 23) (C := "TransportPairModel") (ref := "TransportPairModel") (T := zF_1) (by decide +kernel : decode zY_41.2.1 93 = .ok (.putfield 41, 3)) rfl zuw_1 zFt_1 zFn_1 (by decide) (zw_T zwd_232) rfl rfl rfl rfl (ty := .array .int) (by decide +kernel) (Or.inr ⟨_, rfl⟩)
theorem zf_zm_41_50 (env : List (Nat × Nat)) : zI9 41 zY_41 zm_41 env (96, 0, 0, 0, 0) 97 := zi_aload_n (by decide +kernel : decode zY_41.2.1 96 = .ok (.aload_n 0, 1)) rfl
theorem zf_zm_41_51 (env : List (Nat × Nat)) : zI9 41 zY_41 zm_41 env (97, 2, 192, 0, 0) 100 := zi_sipush (by decide +kernel : decode zY_41.2.1 97 = .ok (.sipush 192, 3)) (by decide +kernel)
theorem zf_zm_41_52 (env : List (Nat × Nat)) : zI9 41 zY_41 zm_41 env (100, 12, 0, 0, 0) 102 := zi_newI (by decide +kernel : decode zY_41.2.1 100 = .ok (.newarray .int, 2)) (zw_T zwd_16) rfl rfl (by decide) rfl
theorem zf_zm_41_53 (env : List (Nat × Nat)) : zI9 41 zY_41 zm_41 env (102, 4, 1, 11, 2) 105 := zi_putfF (i := 44) (N := 23) (C := "TransportPairModel") (ref := "TransportPairModel") (T := zF_1) (by decide +kernel : decode zY_41.2.1 102 = .ok (.putfield 44, 3)) rfl zuw_1 zFt_1 zFn_1 (by decide) (zw_T zwd_233) rfl rfl rfl rfl (ty := .array .int) (by decide +kernel) (Or.inr ⟨_, rfl⟩)
theorem zf_zm_41_54 (env : List (Nat × Nat)) : zI9 41 zY_41 zm_41 env (105, 0, 0, 0, 0) 106 := zi_aload_n (by decide +kernel : decode zY_41.2.1 105 = .ok (.aload_n 0, 1)) rfl
theorem zf_zm_41_55 (env : List (Nat × Nat)) : zI9 41 zY_41 zm_41 env (106, 2, 192, 0, 0) 109 := zi_sipush (by decide +kernel : decode zY_41.2.1 106 = .ok (.sipush 192, 3)) (by decide +kernel)
theorem zf_zm_41_56 (env : List (Nat × Nat)) : zI9 41 zY_41 zm_41 env (109, 12, 0, 2, 0) 111 := zi_newI (by decide +kernel : decode zY_41.2.1 109 = .ok (.newarray .boolean, 2)) (zw_T zwd_43) rfl rfl (by decide) rfl
theorem zf_zm_41_57 (env : List (Nat × Nat)) : zI9 41 zY_41 zm_41 env (111, 4, 1, 12, 2) 114 := zi_putfF (i := 47) (N := 23) (C := "TransportPairModel") (ref := "TransportPairModel") (T := zF_1) (by decide +kernel : decode zY_41.2.1 111 = .ok (.putfield 47, 3)) rfl zuw_1 zFt_1 zFn_1 (by decide) (zw_T zwd_234) rfl rfl rfl rfl (ty := .array .boolean) (by decide +kernel) (Or.inr ⟨_, rfl⟩)
theorem zf_zm_41_58 (env : List (Nat × Nat)) : zI9 41 zY_41 zm_41 env (114, 0, 0, 0, 0) 115 := zi_aload_n (by decide +kernel : decode zY_41.2.1 114 = .ok (.aload_n 0, 1)) rfl
theorem zf_zm_41_59 (env : List (Nat × Nat)) : zI9 41 zY_41 zm_41 env (115, 2, 192, 0, 0) 118 := zi_sipush (by decide +kernel : decode zY_41.2.1 115 = .ok (.sipush 192, 3)) (by decide +kernel)
theorem zf_zm_41_60 (env : List (Nat × Nat)) : zI9 41 zY_41 zm_41 env (118, 12, 0, 0, 0) 120 := zi_newI (by decide +kernel : decode zY_41.2.1 118 = .ok (.newarray .int, 2)) (zw_T zwd_16) rfl rfl (by decide) rfl
theorem zf_zm_41_61 (env : List (Nat × Nat)) : zI9 41 zY_41 zm_41 env (120, 4, 1, 13, 2) 123 := zi_putfF (i := 51) (N := 23) (C := "TransportPairModel") (ref := "TransportPairModel") (T := zF_1) (by decide +kernel : decode zY_41.2.1 120 = .ok (.putfield 51, 3)) rfl zuw_1 zFt_1 zFn_1 (by decide) (zw_T zwd_235) rfl rfl rfl rfl (ty := .array .int) (by decide +kernel) (Or.inr ⟨_, rfl⟩)
theorem zf_zm_41_62 (env : List (Nat × Nat)) : zI9 41 zY_41 zm_41 env (123, 0, 0, 0, 0) 124 := zi_aload_n (by decide +kernel : decode zY_41.2.1 123 = .ok (.aload_n 0, 1)) rfl
theorem zf_zm_41_63 (env : List (Nat × Nat)) : zI9 41 zY_41 zm_41 env (124, 2, 192, 0, 0) 127 := zi_sipush (by decide +kernel : decode zY_41.2.1 124 = .ok (.sipush 192, 3)) (by decide +kernel)
theorem zf_zm_41_64 (env : List (Nat × Nat)) : zI9 41 zY_41 zm_41 env (127, 12, 0, 0, 0) 129 := zi_newI (by decide +kernel : decode zY_41.2.1 127 = .ok (.newarray .int, 2)) (zw_T zwd_16) rfl rfl (by decide) rfl
theorem zf_zm_41_65 (env : List (Nat × Nat)) : zI9 41 zY_41 zm_41 env (129, 4, 1, 14, 2) 132 := zi_putfF (i := 54) (N := 23) (C := "TransportPairModel") (ref := "TransportPairModel") (T := zF_1) (by decide +kernel : decode zY_41.2.1 129 = .ok (.putfield 54, 3)) rfl zuw_1 zFt_1 zFn_1 (by decide) (zw_T zwd_236) rfl rfl rfl rfl (ty := .array .int) (by decide +kernel) (Or.inr ⟨_, rfl⟩)
theorem zf_zm_41_66 (env : List (Nat × Nat)) : zI9 41 zY_41 zm_41 env (132, 0, 0, 0, 0) 133 := zi_aload_n (by decide +kernel : decode zY_41.2.1 132 = .ok (.aload_n 0, 1)) rfl
theorem zf_zm_41_67 (env : List (Nat × Nat)) : zI9 41 zY_41 zm_41 env (133, 2, 230400, 0, 0) 135 := zi_ldc (v := 230400) (by decide +kernel : decode zY_41.2.1 133 = .ok (.ldc 57, 2)) (by decide +kernel) (zw_T zwd_237)
theorem zf_zm_41_68 (env : List (Nat × Nat)) : zI9 41 zY_41 zm_41 env (135, 12, 0, 1, 0) 137 := zi_newI (by decide +kernel : decode zY_41.2.1 135 = .ok (.newarray .byte, 2)) (zw_T zwd_79) rfl rfl (by decide) rfl
theorem zf_zm_41_69 (env : List (Nat × Nat)) : zI9 41 zY_41 zm_41 env (137, 4, 1, 15, 2) 140 := zi_putfF (i := 58) (N := 23) (C := "TransportPairModel") (ref := "TransportPairModel") (T := zF_1) (by decide +kernel : decode zY_41.2.1 137 = .ok (.putfield 58, 3)) rfl zuw_1 zFt_1 zFn_1 (by decide) (zw_T zwd_238) rfl rfl rfl rfl (ty := .array .byte) (by decide +kernel) (Or.inr ⟨_, rfl⟩)
theorem zf_zm_41_70 (env : List (Nat × Nat)) : zI9 41 zY_41 zm_41 env (140, 0, 0, 0, 0) 141 := zi_aload_n (by decide +kernel : decode zY_41.2.1 140 = .ok (.aload_n 0, 1)) rfl
theorem zf_zm_41_71 (env : List (Nat × Nat)) : zI9 41 zY_41 zm_41 env (141, 2, 2, 0, 0) 142 := zi_iconst (by decide +kernel : decode zY_41.2.1 141 = .ok (.iconst 2, 1)) (by decide +kernel)
theorem zf_zm_41_72 (env : List (Nat × Nat)) : zI9 41 zY_41 zm_41 env (142, 12, 0, 0, 0) 144 := zi_newI (by decide +kernel : decode zY_41.2.1 142 = .ok (.newarray .int, 2)) (zw_T zwd_16) rfl rfl (by decide) rfl
theorem zf_zm_41_73 (env : List (Nat × Nat)) : zI9 41 zY_41 zm_41 env (144, 4, 1, 16, 2) 147 := zi_putfF (i := 61) (N := 23) (C := "TransportPairModel") (ref := "TransportPairModel") (T := zF_1) (by decide +kernel : decode zY_41.2.1 144 = .ok (.putfield 61, 3)) rfl zuw_1 zFt_1 zFn_1 (by decide) (zw_T zwd_239) rfl rfl rfl rfl (ty := .array .int) (by decide +kernel) (Or.inr ⟨_, rfl⟩)
theorem zf_zm_41_74 (env : List (Nat × Nat)) : zI9 41 zY_41 zm_41 env (147, 0, 0, 0, 0) 148 := zi_aload_n (by decide +kernel : decode zY_41.2.1 147 = .ok (.aload_n 0, 1)) rfl
theorem zf_zm_41_75 (env : List (Nat × Nat)) : zI9 41 zY_41 zm_41 env (148, 2, 2, 0, 0) 149 := zi_iconst (by decide +kernel : decode zY_41.2.1 148 = .ok (.iconst 2, 1)) (by decide +kernel)
theorem zf_zm_41_76 (env : List (Nat × Nat)) : zI9 41 zY_41 zm_41 env (149, 12, 0, 0, 0) 151 := zi_newI (by decide +kernel : decode zY_41.2.1 149 = .ok (.newarray .int, 2)) (zw_T zwd_16) rfl rfl (by decide) rfl
theorem zf_zm_41_77 (env : List (Nat × Nat)) : zI9 41 zY_41 zm_41 env (151, 4, 1, 17, 2) 154 := zi_putfF (i := 64) (N := 23) (C := "TransportPairModel") (ref := "TransportPairModel") (T := zF_1) (by decide +kernel : decode zY_41.2.1 151 = .ok (.putfield 64, 3)) rfl zuw_1 zFt_1 zFn_1 (by decide) (zw_T zwd_240) rfl rfl rfl rfl (ty := .array .int) (by decide +kernel) (Or.inr ⟨_, rfl⟩)
theorem zf_zm_41_78 (env : List (Nat × Nat)) : zI9 41 zY_41 zm_41 env (154, 0, 0, 0, 0) 155 := zi_aload_n (by decide +kernel : decode zY_41.2.1 154 = .ok (.aload_n 0, 1)) rfl
theorem zf_zm_41_79 (env : List (Nat × Nat)) : zI9 41 zY_41 zm_41 env (155, 2, 1400, 0, 0) 158 := zi_sipush (by decide +kernel : decode zY_41.2.1 155 = .ok (.sipush 1400, 3)) (by decide +kernel)
theorem zf_zm_41_80 (env : List (Nat × Nat)) : zI9 41 zY_41 zm_41 env (158, 12, 0, 0, 0) 160 := zi_newI (by decide +kernel : decode zY_41.2.1 158 = .ok (.newarray .int, 2)) (zw_T zwd_16) rfl rfl (by decide) rfl
theorem zf_zm_41_81 (env : List (Nat × Nat)) : zI9 41 zY_41 zm_41 env (160, 4, 1, 18, 2) 163 := zi_putfF (i := 67) (N := 23) (C := "TransportPairModel") (ref := "TransportPairModel") (T := zF_1) (by decide +kernel : decode zY_41.2.1 160 = .ok (.putfield 67, 3)) rfl zuw_1 zFt_1 zFn_1 (by decide) (zw_T zwd_241) rfl rfl rfl rfl (ty := .array .int) (by decide +kernel) (Or.inr ⟨_, rfl⟩)
theorem zf_zm_41_82 (env : List (Nat × Nat)) : zI9 41 zY_41 zm_41 env (163, 0, 0, 0, 0) 164 := zi_aload_n (by decide +kernel : decode zY_41.2.1 163 = .ok (.aload_n 0, 1)) rfl
theorem zf_zm_41_83 (env : List (Nat × Nat)) : zI9 41 zY_41 zm_41 env (164, 2, 10, 0, 0) 166 := zi_bipush (by decide +kernel : decode zY_41.2.1 164 = .ok (.bipush 10, 2)) (by decide +kernel)
theorem zf_zm_41_84 (env : List (Nat × Nat)) : zI9 41 zY_41 zm_41 env (166, 12, 0, 0, 0) 168 := zi_newI (by decide +kernel : decode zY_41.2.1 166 = .ok (.newarray .int, 2)) (zw_T zwd_16) rfl rfl (by decide) rfl
theorem zf_zm_41_85 (env : List (Nat × Nat)) : zI9 41 zY_41 zm_41 env (168, 4, 1, 19, 2) 171 := zi_putfF (i := 70) (N := 23) (C := "TransportPairModel") (ref := "TransportPairModel") (T := zF_1) (by decide +kernel : decode zY_41.2.1 168 = .ok (.putfield 70, 3)) rfl zuw_1 zFt_1 zFn_1 (by decide) (zw_T zwd_242) rfl rfl rfl rfl (ty := .array .int) (by decide +kernel) (Or.inr ⟨_, rfl⟩)
theorem zf_zm_41_86 (env : List (Nat × Nat)) : zI9 41 zY_41 zm_41 env (171, 0, 0, 0, 0) 172 := zi_aload_n (by decide +kernel : decode zY_41.2.1 171 = .ok (.aload_n 0, 1)) rfl
theorem zf_zm_41_87 (env : List (Nat × Nat)) : zI9 41 zY_41 zm_41 env (172, 2, 20, 0, 0) 174 := zi_bipush (by decide +kernel : decode zY_41.2.1 172 = .ok (.bipush 20, 2)) (by decide +kernel)
theorem zf_zm_41_88 (env : List (Nat × Nat)) : zI9 41 zY_41 zm_41 env (174, 12, 0, 0, 0) 176 := zi_newI (by decide +kernel : decode zY_41.2.1 174 = .ok (.newarray .int, 2)) (zw_T zwd_16) rfl rfl (by decide) rfl
theorem zf_zm_41_89 (env : List (Nat × Nat)) : zI9 41 zY_41 zm_41 env (176, 4, 1, 20, 2) 179 := zi_putfF (i := 73) (N := 23) (C := "TransportPairModel") (ref := "TransportPairModel") (T := zF_1) (by decide +kernel : decode zY_41.2.1 176 = .ok (.putfield 73, 3)) rfl zuw_1 zFt_1 zFn_1 (by decide) (zw_T zwd_243) rfl rfl rfl rfl (ty := .array .int) (by decide +kernel) (Or.inr ⟨_, rfl⟩)
theorem zf_zm_41_90 (env : List (Nat × Nat)) : zI9 41 zY_41 zm_41 env (179, 0, 0, 0, 0) 180 := zi_aload_n (by decide +kernel : decode zY_41.2.1 179 = .ok (.aload_n 0, 1)) rfl
theorem zf_zm_41_91 (env : List (Nat × Nat)) : zI9 41 zY_41 zm_41 env (180, 17, 20, 0, 10) 183 := zi_new (i := 76) (N := 10) (C := "TransportPairModel$Wire") (T := zF_20) (ds := [2, 0, 0, 0, 0, 2, 0, 0, 0, 0]) (by decide +kernel : decode zY_41.2.1 180 = .ok (.new 76, 3)) rfl zuw_20 zFt_20 (zw_T zwd_244) (zw_T zwd_245) (zw_T zwd_246) rfl rfl rfl zFd_20
theorem zf_zm_41_92 (env : List (Nat × Nat)) : zI9 41 zY_41 zm_41 env (183, 13, 0, 0, 0) 184 := zi_dup (by decide +kernel : decode zY_41.2.1 183 = .ok (.dup, 1))
theorem zf_zm_41_93 (env : List (Nat × Nat)) : zC9 41 zm_41 env (184, 66, 141, 65, 1) := zi_call (by decide +kernel) (zr_IN (i := 78) (n := 0) zX_ok rfl (zgood_141) (by decide +kernel) (zw_T zwd_246) (zw_N zwd_247) rfl (zw_T zwd_248) rfl ⟨by decide +kernel, by decide +kernel, by decide +kernel⟩ rfl (by decide +kernel : decode (zYf 41).2.1 184 = .ok (.invokespecial 78, 3)))
theorem zf_zm_41_94 (env : List (Nat × Nat)) : zI9 41 zY_41 zm_41 env (187, 4, 1, 22, 2) 190 := zi_putfF (i := 79) (N := 23) (C := "TransportPairModel") (ref := "TransportPairModel") (T := zF_1) (by decide +kernel : decode zY_41.2.1 187 = .ok (.putfield 79, 3)) rfl zuw_1 zFt_1 zFn_1 (by decide) (zw_T zwd_249) rfl rfl rfl rfl (ty := .object "TransportPairModel$Wire") (by decide +kernel) (Or.inl ⟨_, rfl⟩)
theorem zf_zm_41_95 (env : List (Nat × Nat)) : zI9 41 zY_41 zm_41 env (190, 2, 0, 0, 0) 191 := zi_iconst (by decide +kernel : decode zY_41.2.1 190 = .ok (.iconst 0, 1)) (by decide +kernel)
theorem zf_zm_41_96 (env : List (Nat × Nat)) : zI9 41 zY_41 zm_41 env (191, 10, 1, 0, 0) 192 := zi_istore_n (by decide +kernel : decode zY_41.2.1 191 = .ok (.istore_n 1, 1)) rfl (by decide)
theorem zf_zm_41_97 (env : List (Nat × Nat)) : zI9 41 zY_41 zm_41 env (192, 63, 1, 0, 0) 193 := zi_iload_n (by decide +kernel : decode zY_41.2.1 192 = .ok (.iload_n 1, 1)) rfl
theorem zf_zm_41_98 (env : List (Nat × Nat)) : zI9 41 zY_41 zm_41 env (193, 2, 2, 0, 0) 194 := zi_iconst (by decide +kernel : decode zY_41.2.1 193 = .ok (.iconst 2, 1)) (by decide +kernel)
theorem zf_zm_41_99 (env : List (Nat × Nat)) : zI9 41 zY_41 zm_41 env (194, 28, 134, 0, 0) 197 := zi_icmp_ge (off := 67) (t := 261) (by decide +kernel : decode zY_41.2.1 194 = .ok (.if_icmp .ge 67, 3)) (by decide) (by decide +kernel)
theorem zf_zm_41_100 (env : List (Nat × Nat)) : zI9 41 zY_41 zm_41 env (197, 0, 0, 0, 0) 198 := zi_aload_n (by decide +kernel : decode zY_41.2.1 197 = .ok (.aload_n 0, 1)) rfl
theorem zf_zm_41_101 (env : List (Nat × Nat)) : zI9 41 zY_41 zm_41 env (198, 63, 1, 0, 0) 199 := zi_iload_n (by decide +kernel : decode zY_41.2.1 198 = .ok (.iload_n 1, 1)) rfl
theorem zf_zm_41_102 (env : List (Nat × Nat)) : zI9 41 zY_41 zm_41 env (199, 2, 1, 0, 0) 200 := zi_iconst (by decide +kernel : decode zY_41.2.1 199 = .ok (.iconst 1, 1)) (by decide +kernel)
theorem zf_zm_41_103 (env : List (Nat × Nat)) : zI9 41 zY_41 zm_41 env (200, 2, 30000, 0, 0) 203 := zi_sipush (by decide +kernel : decode zY_41.2.1 200 = .ok (.sipush 30000, 3)) (by decide +kernel)
theorem zf_zm_41_104 (env : List (Nat × Nat)) : zC9 41 zm_41 env (203, 66, 42, 260, 3) := zi_call (by decide +kernel) (zr_V (i := 83) (n := 3) (q := ("TransportPairModel", zF_1, 23)) zX_ok rfl (zgood_42) (by decide +kernel) (zw_T zwd_250) (zw_T zwd_251) (zw_T zwd_252) rfl (zw_T (zt_sel (y := ⟨"TransportPairModel","set","(III)V"⟩) (n := 23) 101 (by decide +kernel))) ⟨by decide +kernel, by decide +kernel, by decide +kernel⟩ rfl (by decide +kernel : decode (zYf 41).2.1 203 = .ok (.invokevirtual 83, 3)))
theorem zf_zm_41_105 (env : List (Nat × Nat)) : zI9 41 zY_41 zm_41 env (206, 0, 0, 0, 0) 207 := zi_aload_n (by decide +kernel : decode zY_41.2.1 206 = .ok (.aload_n 0, 1)) rfl
theorem zf_zm_41_106 (env : List (Nat × Nat)) : zI9 41 zY_41 zm_41 env (207, 63, 1, 0, 0) 208 := zi_iload_n (by decide +kernel : decode zY_41.2.1 207 = .ok (.iload_n 1, 1)) rfl
theorem zf_zm_41_107 (env : List (Nat × Nat)) : zI9 41 zY_41 zm_41 env (208, 2, 4, 0, 0) 209 := zi_iconst (by decide +kernel : decode zY_41.2.1 208 = .ok (.iconst 4, 1)) (by decide +kernel)
theorem zf_zm_41_108 (env : List (Nat × Nat)) : zI9 41 zY_41 zm_41 env (209, 2, 65536, 0, 0) 211 := zi_ldc (v := 65536) (by decide +kernel : decode zY_41.2.1 209 = .ok (.ldc 7, 2)) (by decide +kernel) (zw_T zwd_211)
theorem zf_zm_41_109 (env : List (Nat × Nat)) : zC9 41 zm_41 env (211, 66, 42, 260, 3) := zi_call (by decide +kernel) (zr_V (i := 83) (n := 3) (q := ("TransportPairModel", zF_1, 23)) zX_ok rfl (zgood_42) (by decide +kernel) (zw_T zwd_250) (zw_T zwd_251) (zw_T zwd_252) rfl (zw_T (zt_sel (y := ⟨"TransportPairModel","set","(III)V"⟩) (n := 23) 101 (by decide +kernel))) ⟨by decide +kernel, by decide +kernel, by decide +kernel⟩ rfl (by decide +kernel : decode (zYf 41).2.1 211 = .ok (.invokevirtual 83, 3)))
theorem zf_zm_41_110 (env : List (Nat × Nat)) : zI9 41 zY_41 zm_41 env (214, 2, 5, 0, 0) 215 := zi_iconst (by decide +kernel : decode zY_41.2.1 214 = .ok (.iconst 5, 1)) (by decide +kernel)
theorem zf_zm_41_111 (env : List (Nat × Nat)) : zI9 41 zY_41 zm_41 env (215, 10, 2, 0, 0) 216 := zi_istore_n (by decide +kernel : decode zY_41.2.1 215 = .ok (.istore_n 2, 1)) rfl (by decide)
theorem zf_zm_41_112 (env : List (Nat × Nat)) : zI9 41 zY_41 zm_41 env (216, 63, 2, 0, 0) 217 := zi_iload_n (by decide +kernel : decode zY_41.2.1 216 = .ok (.iload_n 2, 1)) rfl
theorem zf_zm_41_113 (env : List (Nat × Nat)) : zI9 41 zY_41 zm_41 env (217, 2, 8, 0, 0) 219 := zi_bipush (by decide +kernel : decode zY_41.2.1 217 = .ok (.bipush 8, 2)) (by decide +kernel)
theorem zf_zm_41_114 (env : List (Nat × Nat)) : zI9 41 zY_41 zm_41 env (219, 28, 122, 0, 0) 222 := zi_icmp_ge (off := 18) (t := 237) (by decide +kernel : decode zY_41.2.1 219 = .ok (.if_icmp .ge 18, 3)) (by decide) (by decide +kernel)
theorem zf_zm_41_115 (env : List (Nat × Nat)) : zI9 41 zY_41 zm_41 env (222, 0, 0, 0, 0) 223 := zi_aload_n (by decide +kernel : decode zY_41.2.1 222 = .ok (.aload_n 0, 1)) rfl
theorem zf_zm_41_116 (env : List (Nat × Nat)) : zI9 41 zY_41 zm_41 env (223, 63, 1, 0, 0) 224 := zi_iload_n (by decide +kernel : decode zY_41.2.1 223 = .ok (.iload_n 1, 1)) rfl
theorem zf_zm_41_117 (env : List (Nat × Nat)) : zI9 41 zY_41 zm_41 env (224, 63, 2, 0, 0) 225 := zi_iload_n (by decide +kernel : decode zY_41.2.1 224 = .ok (.iload_n 2, 1)) rfl
theorem zf_zm_41_118 (env : List (Nat × Nat)) : zI9 41 zY_41 zm_41 env (225, 2, 16384, 0, 0) 228 := zi_sipush (by decide +kernel : decode zY_41.2.1 225 = .ok (.sipush 16384, 3)) (by decide +kernel)
theorem zf_zm_41_119 (env : List (Nat × Nat)) : zC9 41 zm_41 env (228, 66, 42, 260, 3) := zi_call (by decide +kernel) (zr_V (i := 83) (n := 3) (q := ("TransportPairModel", zF_1, 23)) zX_ok rfl (zgood_42) (by decide +kernel) (zw_T zwd_250) (zw_T zwd_251) (zw_T zwd_252) rfl (zw_T (zt_sel (y := ⟨"TransportPairModel","set","(III)V"⟩) (n := 23) 101 (by decide +kernel))) ⟨by decide +kernel, by decide +kernel, by decide +kernel⟩ rfl (by decide +kernel : decode (zYf 41).2.1 228 = .ok (.invokevirtual 83, 3)))
theorem zf_zm_41_120 (env : List (Nat × Nat)) : zI9 41 zY_41 zm_41 env (231, 35, 2, 1, 0) 234 := zi_iinc (by decide +kernel : decode zY_41.2.1 231 = .ok (.iinc 2 1, 3)) (by decide +kernel) (by decide)
theorem zf_zm_41_121 (env : List (Nat × Nat)) : zI9 41 zY_41 zm_41 env (234, 7, 112, 0, 0) 237 := zi_goto (off := (-18)) (t := 216) (by decide +kernel : decode zY_41.2.1 234 = .ok (.goto (-18), 3)) (by decide) (by decide +kernel)
theorem zf_zm_41_122 (env : List (Nat × Nat)) : zI9 41 zY_41 zm_41 env (237, 0, 0, 0, 0) 238 := zi_aload_n (by decide +kernel : decode zY_41.2.1 237 = .ok (.aload_n 0, 1)) rfl
theorem zf_zm_41_123 (env : List (Nat × Nat)) : zI9 41 zY_41 zm_41 env (238, 63, 1, 0, 0) 239 := zi_iload_n (by decide +kernel : decode zY_41.2.1 238 = .ok (.iload_n 1, 1)) rfl
theorem zf_zm_41_124 (env : List (Nat × Nat)) : zI9 41 zY_41 zm_41 env (239, 2, 8, 0, 0) 241 := zi_bipush (by decide +kernel : decode zY_41.2.1 239 = .ok (.bipush 8, 2)) (by decide +kernel)
theorem zf_zm_41_125 (env : List (Nat × Nat)) : zI9 41 zY_41 zm_41 env (241, 2, 16, 0, 0) 243 := zi_bipush (by decide +kernel : decode zY_41.2.1 241 = .ok (.bipush 16, 2)) (by decide +kernel)
theorem zf_zm_41_126 (env : List (Nat × Nat)) : zC9 41 zm_41 env (243, 66, 42, 260, 3) := zi_call (by decide +kernel) (zr_V (i := 83) (n := 3) (q := ("TransportPairModel", zF_1, 23)) zX_ok rfl (zgood_42) (by decide +kernel) (zw_T zwd_250) (zw_T zwd_251) (zw_T zwd_252) rfl (zw_T (zt_sel (y := ⟨"TransportPairModel","set","(III)V"⟩) (n := 23) 101 (by decide +kernel))) ⟨by decide +kernel, by decide +kernel, by decide +kernel⟩ rfl (by decide +kernel : decode (zYf 41).2.1 243 = .ok (.invokevirtual 83, 3)))
theorem zf_zm_41_127 (env : List (Nat × Nat)) : zI9 41 zY_41 zm_41 env (246, 0, 0, 0, 0) 247 := zi_aload_n (by decide +kernel : decode zY_41.2.1 246 = .ok (.aload_n 0, 1)) rfl
theorem zf_zm_41_128 (env : List (Nat × Nat)) : zI9 41 zY_41 zm_41 env (247, 63, 1, 0, 0) 248 := zi_iload_n (by decide +kernel : decode zY_41.2.1 247 = .ok (.iload_n 1, 1)) rfl
theorem zf_zm_41_129 (env : List (Nat × Nat)) : zI9 41 zY_41 zm_41 env (248, 2, 9, 0, 0) 250 := zi_bipush (by decide +kernel : decode zY_41.2.1 248 = .ok (.bipush 9, 2)) (by decide +kernel)
theorem zf_zm_41_130 (env : List (Nat × Nat)) : zI9 41 zY_41 zm_41 env (250, 2, 8, 0, 0) 252 := zi_bipush (by decide +kernel : decode zY_41.2.1 250 = .ok (.bipush 8, 2)) (by decide +kernel)
theorem zf_zm_41_131 (env : List (Nat × Nat)) : zC9 41 zm_41 env (252, 66, 42, 260, 3) := zi_call (by decide +kernel) (zr_V (i := 83) (n := 3) (q := ("TransportPairModel", zF_1, 23)) zX_ok rfl (zgood_42) (by decide +kernel) (zw_T zwd_250) (zw_T zwd_251) (zw_T zwd_252) rfl (zw_T (zt_sel (y := ⟨"TransportPairModel","set","(III)V"⟩) (n := 23) 101 (by decide +kernel))) ⟨by decide +kernel, by decide +kernel, by decide +kernel⟩ rfl (by decide +kernel : decode (zYf 41).2.1 252 = .ok (.invokevirtual 83, 3)))
theorem zf_zm_41_132 (env : List (Nat × Nat)) : zI9 41 zY_41 zm_41 env (255, 35, 1, 1, 0) 258 := zi_iinc (by decide +kernel : decode zY_41.2.1 255 = .ok (.iinc 1 1, 3)) (by decide +kernel) (by decide)
theorem zf_zm_41_133 (env : List (Nat × Nat)) : zI9 41 zY_41 zm_41 env (258, 7, 97, 0, 0) 261 := zi_goto (off := (-66)) (t := 192) (by decide +kernel : decode zY_41.2.1 258 = .ok (.goto (-66), 3)) (by decide) (by decide +kernel)
theorem zf_zm_41_134 (env : List (Nat × Nat)) : zR9 41 env (261, 21, 0, 0, 0) := zi_vret (by decide +kernel : decode (zYf 41).2.1 261 = .ok (.return_, 1)) rfl
set_option maxRecDepth 100000 in
theorem zc_zm_41 (env : List (Nat × Nat)) : zcode zX (z_QF zEX zcl zft) (z_zm zEX zX zWL zcl zft zYf) zYf zW zET zcl zft (zGv env) 41 zm_41 zm_41.1 := ⟨Or.inl ⟨1, zf_zm_41_0 env, zpc_c⟩,
  Or.inl ⟨4, zf_zm_41_1 env, zpc_c⟩,
  Or.inl ⟨5, zf_zm_41_2 env, zpc_c⟩,
  Or.inl ⟨7, zf_zm_41_3 env, zpc_c⟩,
  Or.inl ⟨9, zf_zm_41_4 env, zpc_c⟩,
  Or.inl ⟨12, zf_zm_41_5 env, zpc_c⟩,
  Or.inl ⟨13, zf_zm_41_6 env, zpc_c⟩,
  Or.inl ⟨16, zf_zm_41_7 env, zpc_c⟩,
  Or.inl ⟨18, zf_zm_41_8 env, zpc_c⟩,
  Or.inl ⟨21, zf_zm_41_9 env, zpc_c⟩,
  Or.inl ⟨22, zf_zm_41_10 env, zpc_c⟩,
  Or.inl ⟨25, zf_zm_41_11 env, zpc_c⟩,
  Or.inl ⟨26, zf_zm_41_12 env, zpc_c⟩,
  Or.inr (Or.inr (Or.inl ⟨zf_zm_41_13 env, zpc_c⟩)),
  Or.inl ⟨32, zf_zm_41_14 env, zpc_c⟩,
  Or.inl ⟨33, zf_zm_41_15 env, zpc_c⟩,
  Or.inl ⟨36, zf_zm_41_16 env, zpc_c⟩,
  Or.inl ⟨37, zf_zm_41_17 env, zpc_c⟩,
  Or.inr (Or.inr (Or.inl ⟨zf_zm_41_18 env, zpc_c⟩)),
  Or.inl ⟨43, zf_zm_41_19 env, zpc_c⟩,
  Or.inl ⟨44, zf_zm_41_20 env, zpc_c⟩,
  Or.inl ⟨45, zf_zm_41_21 env, zpc_c⟩,
  Or.inl ⟨48, zf_zm_41_22 env, zpc_c⟩,
  Or.inl ⟨49, zf_zm_41_23 env, zpc_c⟩,
  Or.inl ⟨50, zf_zm_41_24 env, zpc_c⟩,
  Or.inl ⟨53, zf_zm_41_25 env, zpc_c⟩,
  Or.inl ⟨54, zf_zm_41_26 env, zpc_c⟩,
  Or.inl ⟨55, zf_zm_41_27 env, zpc_c⟩,
  Or.inl ⟨56, zf_zm_41_28 env, zpc_c⟩,
  Or.inl ⟨59, zf_zm_41_29 env, zpc_c⟩,
  Or.inl ⟨60, zf_zm_41_30 env, zpc_c⟩,
  Or.inl ⟨63, zf_zm_41_31 env, zpc_c⟩,
  Or.inr (Or.inr (Or.inl ⟨zf_zm_41_32 env, zpc_c⟩)),
  Or.inl ⟨67, zf_zm_41_33 env, zpc_c⟩,
  Or.inl ⟨68, zf_zm_41_34 env, zpc_c⟩,
  Or.inl ⟨69, zf_zm_41_35 env, zpc_c⟩,
  Or.inl ⟨72, zf_zm_41_36 env, zpc_c⟩,
  Or.inl ⟨73, zf_zm_41_37 env, zpc_c⟩,
  Or.inl ⟨74, zf_zm_41_38 env, zpc_c⟩,
  Or.inl ⟨75, zf_zm_41_39 env, zpc_c⟩,
  Or.inl ⟨78, zf_zm_41_40 env, zpc_c⟩,
  Or.inl ⟨79, zf_zm_41_41 env, zpc_c⟩,
  Or.inl ⟨82, zf_zm_41_42 env, zpc_c⟩,
  Or.inr (Or.inr (Or.inl ⟨zf_zm_41_43 env, zpc_c⟩)),
  Or.inl ⟨86, zf_zm_41_44 env, zpc_c⟩,
  Or.inl ⟨89, zf_zm_41_45 env, zpc_c⟩,
  Or.inl ⟨90, zf_zm_41_46 env, zpc_c⟩,
  Or.inl ⟨91, zf_zm_41_47 env, zpc_c⟩,
  Or.inl ⟨93, zf_zm_41_48 env, zpc_c⟩,
  Or.inl ⟨96, zf_zm_41_49 env, zpc_c⟩,
  Or.inl ⟨97, zf_zm_41_50 env, zpc_c⟩,
  Or.inl ⟨100, zf_zm_41_51 env, zpc_c⟩,
  Or.inl ⟨102, zf_zm_41_52 env, zpc_c⟩,
  Or.inl ⟨105, zf_zm_41_53 env, zpc_c⟩,
  Or.inl ⟨106, zf_zm_41_54 env, zpc_c⟩,
  Or.inl ⟨109, zf_zm_41_55 env, zpc_c⟩,
  Or.inl ⟨111, zf_zm_41_56 env, zpc_c⟩,
  Or.inl ⟨114, zf_zm_41_57 env, zpc_c⟩,
  Or.inl ⟨115, zf_zm_41_58 env, zpc_c⟩,
  Or.inl ⟨118, zf_zm_41_59 env, zpc_c⟩,
  Or.inl ⟨120, zf_zm_41_60 env, zpc_c⟩,
  Or.inl ⟨123, zf_zm_41_61 env, zpc_c⟩,
  Or.inl ⟨124, zf_zm_41_62 env, zpc_c⟩,
  Or.inl ⟨127, zf_zm_41_63 env, zpc_c⟩,
  Or.inl ⟨129, zf_zm_41_64 env, zpc_c⟩,
  Or.inl ⟨132, zf_zm_41_65 env, zpc_c⟩,
  Or.inl ⟨133, zf_zm_41_66 env, zpc_c⟩,
  Or.inl ⟨135, zf_zm_41_67 env, zpc_c⟩,
  Or.inl ⟨137, zf_zm_41_68 env, zpc_c⟩,
  Or.inl ⟨140, zf_zm_41_69 env, zpc_c⟩,
  Or.inl ⟨141, zf_zm_41_70 env, zpc_c⟩,
  Or.inl ⟨142, zf_zm_41_71 env, zpc_c⟩,
  Or.inl ⟨144, zf_zm_41_72 env, zpc_c⟩,
  Or.inl ⟨147, zf_zm_41_73 env, zpc_c⟩,
  Or.inl ⟨148, zf_zm_41_74 env, zpc_c⟩,
  Or.inl ⟨149, zf_zm_41_75 env, zpc_c⟩,
  Or.inl ⟨151, zf_zm_41_76 env, zpc_c⟩,
  Or.inl ⟨154, zf_zm_41_77 env, zpc_c⟩,
  Or.inl ⟨155, zf_zm_41_78 env, zpc_c⟩,
  Or.inl ⟨158, zf_zm_41_79 env, zpc_c⟩,
  Or.inl ⟨160, zf_zm_41_80 env, zpc_c⟩,
  Or.inl ⟨163, zf_zm_41_81 env, zpc_c⟩,
  Or.inl ⟨164, zf_zm_41_82 env, zpc_c⟩,
  Or.inl ⟨166, zf_zm_41_83 env, zpc_c⟩,
  Or.inl ⟨168, zf_zm_41_84 env, zpc_c⟩,
  Or.inl ⟨171, zf_zm_41_85 env, zpc_c⟩,
  Or.inl ⟨172, zf_zm_41_86 env, zpc_c⟩,
  Or.inl ⟨174, zf_zm_41_87 env, zpc_c⟩,
  Or.inl ⟨176, zf_zm_41_88 env, zpc_c⟩,
  Or.inl ⟨179, zf_zm_41_89 env, zpc_c⟩,
  Or.inl ⟨180, zf_zm_41_90 env, zpc_c⟩,
  Or.inl ⟨183, zf_zm_41_91 env, zpc_c⟩,
  Or.inl ⟨184, zf_zm_41_92 env, zpc_c⟩,
  Or.inr (Or.inr (Or.inl ⟨zf_zm_41_93 env, zpc_c⟩)),
  Or.inl ⟨190, zf_zm_41_94 env, zpc_c⟩,
  Or.inl ⟨191, zf_zm_41_95 env, zpc_c⟩,
  Or.inl ⟨192, zf_zm_41_96 env, zpc_c⟩,
  Or.inl ⟨193, zf_zm_41_97 env, zpc_c⟩,
  Or.inl ⟨194, zf_zm_41_98 env, zpc_c⟩,
  Or.inl ⟨197, zf_zm_41_99 env, zpc_c⟩,
  Or.inl ⟨198, zf_zm_41_100 env, zpc_c⟩,
  Or.inl ⟨199, zf_zm_41_101 env, zpc_c⟩,
  Or.inl ⟨200, zf_zm_41_102 env, zpc_c⟩,
  Or.inl ⟨203, zf_zm_41_103 env, zpc_c⟩,
  Or.inr (Or.inr (Or.inl ⟨zf_zm_41_104 env, zpc_c⟩)),
  Or.inl ⟨207, zf_zm_41_105 env, zpc_c⟩,
  Or.inl ⟨208, zf_zm_41_106 env, zpc_c⟩,
  Or.inl ⟨209, zf_zm_41_107 env, zpc_c⟩,
  Or.inl ⟨211, zf_zm_41_108 env, zpc_c⟩,
  Or.inr (Or.inr (Or.inl ⟨zf_zm_41_109 env, zpc_c⟩)),
  Or.inl ⟨215, zf_zm_41_110 env, zpc_c⟩,
  Or.inl ⟨216, zf_zm_41_111 env, zpc_c⟩,
  Or.inl ⟨217, zf_zm_41_112 env, zpc_c⟩,
  Or.inl ⟨219, zf_zm_41_113 env, zpc_c⟩,
  Or.inl ⟨222, zf_zm_41_114 env, zpc_c⟩,
  Or.inl ⟨223, zf_zm_41_115 env, zpc_c⟩,
  Or.inl ⟨224, zf_zm_41_116 env, zpc_c⟩,
  Or.inl ⟨225, zf_zm_41_117 env, zpc_c⟩,
  Or.inl ⟨228, zf_zm_41_118 env, zpc_c⟩,
  Or.inr (Or.inr (Or.inl ⟨zf_zm_41_119 env, zpc_c⟩)),
  Or.inl ⟨234, zf_zm_41_120 env, zpc_c⟩,
  Or.inl ⟨237, zf_zm_41_121 env, zpc_c⟩,
  Or.inl ⟨238, zf_zm_41_122 env, zpc_c⟩,
  Or.inl ⟨239, zf_zm_41_123 env, zpc_c⟩,
  Or.inl ⟨241, zf_zm_41_124 env, zpc_c⟩,
  Or.inl ⟨243, zf_zm_41_125 env, zpc_c⟩,
  Or.inr (Or.inr (Or.inl ⟨zf_zm_41_126 env, zpc_c⟩)),
  Or.inl ⟨247, zf_zm_41_127 env, zpc_c⟩,
  Or.inl ⟨248, zf_zm_41_128 env, zpc_c⟩,
  Or.inl ⟨250, zf_zm_41_129 env, zpc_c⟩,
  Or.inl ⟨252, zf_zm_41_130 env, zpc_c⟩,
  Or.inr (Or.inr (Or.inl ⟨zf_zm_41_131 env, zpc_c⟩)),
  Or.inl ⟨258, zf_zm_41_132 env, zpc_c⟩,
  Or.inl ⟨261, zf_zm_41_133 env, zpc_c⟩,
  Or.inr (Or.inl (zf_zm_41_134 env)), trivial⟩
theorem zf_zm_42_0 (env : List (Nat × Nat)) : zI9 42 zY_42 zm_42 env (0, 0, 0, 0, 0) 1 := zi_aload_n (by decide +kernel : decode zY_42.2.1 0 = .ok (.aload_n 0, 1)) rfl
theorem zf_zm_42_1 (env : List (Nat × Nat)) : zI9 42 zY_42 zm_42 env (1, 1, 1, 7, 2) 4 := zi_getf (i := 37) (N := 23) (C := "TransportPairModel") (ref := "TransportPairModel") (T := zF_1) (by decide +kernel : decode zY_42.2.1 1 = .ok (.getfield 37, 3)) rfl zuw_1 (by decide) (zw_T zwd_231) rfl
theorem zf_zm_42_2 (env : List (Nat × Nat)) : zI9 42 zY_42 zm_42 env (4, 63, 1, 0, 0) 5 := zi_iload_n (by decide +kernel : decode zY_42.2.1 4 = .ok (.iload_n 1, 1)) rfl
theorem zf_zm_42_3 (env : List (Nat × Nat)) : zI9 42 zY_42 zm_42 env (5, 19, 0, 0, 0) 6 := zi_aald zft_all (by decide +kernel : decode zY_42.2.1 5 = .ok (.aaload, 1))
theorem zf_zm_42_4 (env : List (Nat × Nat)) : zI9 42 zY_42 zm_42 env (6, 1, 18, 5, 2) 9 := zi_getfN (i := 87) (N := 53) (C := "TransportPairModel$Side") (ref := "TransportPairModel$Side") (T := zF_18) (by decide +kernel : decode zY_42.2.1 6 = .ok (.getfield 87, 3)) rfl zuw_18 (by decide) (zw_N zwd_253) rfl
theorem zf_zm_42_5 (env : List (Nat × Nat)) : zI9 42 zY_42 zm_42 env (9, 63, 2, 0, 0) 10 := zi_iload_n (by decide +kernel : decode zY_42.2.1 9 = .ok (.iload_n 2, 1)) rfl
theorem zf_zm_42_6 (env : List (Nat × Nat)) : zI9 42 zY_42 zm_42 env (10, 63, 3, 0, 0) 11 := zi_iload_n (by decide +kernel : decode zY_42.2.1 10 = .ok (.iload_n 3, 1)) rfl
theorem zf_zm_42_7 (env : List (Nat × Nat)) : zI9 42 zY_42 zm_42 env (11, 16, 0, 0, 0) 12 := zi_i2l (by decide +kernel : decode zY_42.2.1 11 = .ok (.i2l, 1))
theorem zf_zm_42_8 (env : List (Nat × Nat)) : zI9 42 zY_42 zm_42 env (12, 18, 0, 0, 0) 13 := zi_last (by decide +kernel : decode zY_42.2.1 12 = .ok (.lastore, 1))
theorem zf_zm_42_9 (env : List (Nat × Nat)) : zI9 42 zY_42 zm_42 env (13, 63, 2, 0, 0) 14 := zi_iload_n (by decide +kernel : decode zY_42.2.1 13 = .ok (.iload_n 2, 1)) rfl
theorem zf_zm_42_10 (env : List (Nat × Nat)) : zI9 42 zY_42 zm_42 env (14, 2, 3, 0, 0) 15 := zi_iconst (by decide +kernel : decode zY_42.2.1 14 = .ok (.iconst 3, 1)) (by decide +kernel)
theorem zf_zm_42_11 (env : List (Nat × Nat)) : zI9 42 zY_42 zm_42 env (15, 27, 19, 0, 0) 18 := zi_icmp_le (off := 14) (t := 29) (by decide +kernel : decode zY_42.2.1 15 = .ok (.if_icmp .le 14, 3)) (by decide) (by decide +kernel)
theorem zf_zm_42_12 (env : List (Nat × Nat)) : zI9 42 zY_42 zm_42 env (18, 0, 0, 0, 0) 19 := zi_aload_n (by decide +kernel : decode zY_42.2.1 18 = .ok (.aload_n 0, 1)) rfl
theorem zf_zm_42_13 (env : List (Nat × Nat)) : zI9 42 zY_42 zm_42 env (19, 1, 1, 6, 2) 22 := zi_getf (i := 28) (N := 23) (C := "TransportPairModel") (ref := "TransportPairModel") (T := zF_1) (by decide +kernel : decode zY_42.2.1 19 = .ok (.getfield 28, 3)) rfl zuw_1 (by decide) (zw_T zwd_224) rfl
theorem zf_zm_42_14 (env : List (Nat × Nat)) : zI9 42 zY_42 zm_42 env (22, 63, 1, 0, 0) 23 := zi_iload_n (by decide +kernel : decode zY_42.2.1 22 = .ok (.iload_n 1, 1)) rfl
theorem zf_zm_42_15 (env : List (Nat × Nat)) : zI9 42 zY_42 zm_42 env (23, 63, 2, 0, 0) 24 := zi_iload_n (by decide +kernel : decode zY_42.2.1 23 = .ok (.iload_n 2, 1)) rfl
theorem zf_zm_42_16 (env : List (Nat × Nat)) : zI9 42 zY_42 zm_42 env (24, 63, 3, 0, 0) 25 := zi_iload_n (by decide +kernel : decode zY_42.2.1 24 = .ok (.iload_n 3, 1)) rfl
theorem zf_zm_42_17 (env : List (Nat × Nat)) : zI9 42 zY_42 zm_42 env (25, 16, 0, 0, 0) 26 := zi_i2l (by decide +kernel : decode zY_42.2.1 25 = .ok (.i2l, 1))
theorem zf_zm_42_18 (env : List (Nat × Nat)) : zC9 42 zm_42 env (26, 66, 125, 261, 21) := zi_call (by decide +kernel) (zr_V (i := 91) (n := 3) (q := ("TransportPairModel$Streams", zF_19, 56)) zX_ok rfl (zgood_125) (by decide +kernel) (zw_T zwd_221) (zw_T zwd_254) (zw_T zwd_255) rfl (zw_T zwd_256) ⟨by decide +kernel, by decide +kernel, by decide +kernel⟩ rfl (by decide +kernel : decode (zYf 42).2.1 26 = .ok (.invokevirtual 91, 3)))
theorem zf_zm_42_19 (env : List (Nat × Nat)) : zR9 42 env (29, 21, 0, 0, 0) := zi_vret (by decide +kernel : decode (zYf 42).2.1 29 = .ok (.return_, 1)) rfl
set_option maxRecDepth 100000 in
theorem zc_zm_42 (env : List (Nat × Nat)) : zcode zX (z_QF zEX zcl zft) (z_zm zEX zX zWL zcl zft zYf) zYf zW zET zcl zft (zGv env) 42 zm_42 zm_42.1 := ⟨Or.inl ⟨1, zf_zm_42_0 env, zpc_c⟩,
  Or.inl ⟨4, zf_zm_42_1 env, zpc_c⟩,
  Or.inl ⟨5, zf_zm_42_2 env, zpc_c⟩,
  Or.inl ⟨6, zf_zm_42_3 env, zpc_c⟩,
  Or.inl ⟨9, zf_zm_42_4 env, zpc_c⟩,
  Or.inl ⟨10, zf_zm_42_5 env, zpc_c⟩,
  Or.inl ⟨11, zf_zm_42_6 env, zpc_c⟩,
  Or.inl ⟨12, zf_zm_42_7 env, zpc_c⟩,
  Or.inl ⟨13, zf_zm_42_8 env, zpc_c⟩,
  Or.inl ⟨14, zf_zm_42_9 env, zpc_c⟩,
  Or.inl ⟨15, zf_zm_42_10 env, zpc_c⟩,
  Or.inl ⟨18, zf_zm_42_11 env, zpc_c⟩,
  Or.inl ⟨19, zf_zm_42_12 env, zpc_c⟩,
  Or.inl ⟨22, zf_zm_42_13 env, zpc_c⟩,
  Or.inl ⟨23, zf_zm_42_14 env, zpc_c⟩,
  Or.inl ⟨24, zf_zm_42_15 env, zpc_c⟩,
  Or.inl ⟨25, zf_zm_42_16 env, zpc_c⟩,
  Or.inl ⟨26, zf_zm_42_17 env, zpc_c⟩,
  Or.inr (Or.inr (Or.inl ⟨zf_zm_42_18 env, zpc_c⟩)),
  Or.inr (Or.inl (zf_zm_42_19 env)), trivial⟩
theorem zf_zm_43_0 (env : List (Nat × Nat)) : zI9 43 zY_43 zm_43 env (0, 0, 0, 0, 0) 1 := zi_aload_n (by decide +kernel : decode zY_43.2.1 0 = .ok (.aload_n 0, 1)) rfl
theorem zf_zm_43_1 (env : List (Nat × Nat)) : zI9 43 zY_43 zm_43 env (1, 1, 1, 0, 0) 4 := zi_getf (i := 95) (N := 23) (C := "TransportPairModel") (ref := "TransportPairModel") (T := zF_1) (by decide +kernel : decode zY_43.2.1 1 = .ok (.getfield 95, 3)) rfl zuw_1 (by decide) (zw_T zwd_257) rfl
theorem zf_zm_43_2 (env : List (Nat × Nat)) : zR9 43 env (4, 11, 0, 0, 0) := zi_iret (by decide +kernel : decode (zYf 43).2.1 4 = .ok (.ireturn, 1)) rfl
set_option maxRecDepth 100000 in
theorem zc_zm_43 (env : List (Nat × Nat)) : zcode zX (z_QF zEX zcl zft) (z_zm zEX zX zWL zcl zft zYf) zYf zW zET zcl zft (zGv env) 43 zm_43 zm_43.1 := ⟨Or.inl ⟨1, zf_zm_43_0 env, zpc_c⟩,
  Or.inl ⟨4, zf_zm_43_1 env, zpc_c⟩,
  Or.inr (Or.inl (zf_zm_43_2 env)), trivial⟩
theorem zf_zm_44_0 (env : List (Nat × Nat)) : zI9 44 zY_44 zm_44 env (0, 0, 0, 0, 0) 1 := zi_aload_n (by decide +kernel : decode zY_44.2.1 0 = .ok (.aload_n 0, 1)) rfl
theorem zf_zm_44_1 (env : List (Nat × Nat)) : zI9 44 zY_44 zm_44 env (1, 63, 1, 0, 0) 2 := zi_iload_n (by decide +kernel : decode zY_44.2.1 1 = .ok (.iload_n 1, 1)) rfl
theorem zf_zm_44_2 (env : List (Nat × Nat)) : zI9 44 zY_44 zm_44 env (2, 5, 5, 0, 0) 5 := zi_if_eq (off := 7) (t := 9) (by decide +kernel : decode zY_44.2.1 2 = .ok (.ifCond .eq 7, 3)) (by decide) (by decide +kernel)
theorem zf_zm_44_3 (env : List (Nat × Nat)) : zI9 44 zY_44 zm_44 env (5, 63, 2, 0, 0) 6 := zi_iload_n (by decide +kernel : decode zY_44.2.1 5 = .ok (.iload_n 2, 1)) rfl
theorem zf_zm_44_4 (env : List (Nat × Nat)) : zI9 44 zY_44 zm_44 env (6, 7, 6, 0, 0) 9 := zi_goto (off := 4) (t := 10) (by decide +kernel : decode zY_44.2.1 6 = .ok (.goto 4, 3)) (by decide) (by decide +kernel)
theorem zf_zm_44_5 (env : List (Nat × Nat)) : zI9 44 zY_44 zm_44 env (9, 2, 0, 0, 0) 10 := zi_iconst (by decide +kernel : decode zY_44.2.1 9 = .ok (.iconst 0, 1)) (by decide +kernel)
theorem zf_zm_44_6 (env : List (Nat × Nat)) : zI9 44 zY_44 zm_44 env (10, 4, 1, 0, 0) 13 := zi_putf (i := 95) (N := 23) (C := "TransportPairModel") (ref := "TransportPairModel") (T := zF_1) (by decide +kernel : decode zY_44.2.1 10 = .ok (.putfield 95, 3)) rfl zuw_1 zFt_1 zFn_1 (by decide) (zw_T zwd_257) rfl rfl (ty := .int) (by decide +kernel) (rfl)
theorem zf_zm_44_7 (env : List (Nat × Nat)) : zI9 44 zY_44 zm_44 env (13, 63, 1, 0, 0) 14 := zi_iload_n (by decide +kernel : decode zY_44.2.1 13 = .ok (.iload_n 1, 1)) rfl
theorem zf_zm_44_8 (env : List (Nat × Nat)) : zR9 44 env (14, 11, 3, 0, 0) := zi_zret (by decide +kernel : decode (zYf 44).2.1 14 = .ok (.ireturn, 1)) rfl
set_option maxRecDepth 100000 in
theorem zc_zm_44 (env : List (Nat × Nat)) : zcode zX (z_QF zEX zcl zft) (z_zm zEX zX zWL zcl zft zYf) zYf zW zET zcl zft (zGv env) 44 zm_44 zm_44.1 := ⟨Or.inl ⟨1, zf_zm_44_0 env, zpc_c⟩,
  Or.inl ⟨2, zf_zm_44_1 env, zpc_c⟩,
  Or.inl ⟨5, zf_zm_44_2 env, zpc_c⟩,
  Or.inl ⟨6, zf_zm_44_3 env, zpc_c⟩,
  Or.inl ⟨9, zf_zm_44_4 env, zpc_c⟩,
  Or.inl ⟨10, zf_zm_44_5 env, zpc_c⟩,
  Or.inl ⟨13, zf_zm_44_6 env, zpc_c⟩,
  Or.inl ⟨14, zf_zm_44_7 env, zpc_c⟩,
  Or.inr (Or.inl (zf_zm_44_8 env)), trivial⟩
theorem zf_zm_45_0 (env : List (Nat × Nat)) : zI9 45 zY_45 zm_45 env (0, 63, 0, 0, 0) 1 := zi_iload_n (by decide +kernel : decode zY_45.2.1 0 = .ok (.iload_n 0, 1)) rfl
theorem zf_zm_45_1 (env : List (Nat × Nat)) : zI9 45 zY_45 zm_45 env (1, 22, 5, 0, 0) 4 := zi_if_lt (off := 8) (t := 9) (by decide +kernel : decode zY_45.2.1 1 = .ok (.ifCond .lt 8, 3)) (by decide) (by decide +kernel)
theorem zf_zm_45_2 (env : List (Nat × Nat)) : zI9 45 zY_45 zm_45 env (4, 63, 0, 0, 0) 5 := zi_iload_n (by decide +kernel : decode zY_45.2.1 4 = .ok (.iload_n 0, 1)) rfl
theorem zf_zm_45_3 (env : List (Nat × Nat)) : zI9 45 zY_45 zm_45 env (5, 2, 1, 0, 0) 6 := zi_iconst (by decide +kernel : decode zY_45.2.1 5 = .ok (.iconst 1, 1)) (by decide +kernel)
theorem zf_zm_45_4 (env : List (Nat × Nat)) : zI9 45 zY_45 zm_45 env (6, 27, 7, 0, 0) 9 := zi_icmp_le (off := 7) (t := 13) (by decide +kernel : decode zY_45.2.1 6 = .ok (.if_icmp .le 7, 3)) (by decide) (by decide +kernel)
theorem zf_zm_45_5 (env : List (Nat × Nat)) : zI9 45 zY_45 zm_45 env (9, 2, 1, 0, 0) 10 := zi_iconst (by decide +kernel : decode zY_45.2.1 9 = .ok (.iconst 1, 1)) (by decide +kernel)
theorem zf_zm_45_6 (env : List (Nat × Nat)) : zI9 45 zY_45 zm_45 env (10, 7, 8, 0, 0) 13 := zi_goto (off := 4) (t := 14) (by decide +kernel : decode zY_45.2.1 10 = .ok (.goto 4, 3)) (by decide) (by decide +kernel)
theorem zf_zm_45_7 (env : List (Nat × Nat)) : zI9 45 zY_45 zm_45 env (13, 2, 0, 0, 0) 14 := zi_iconst (by decide +kernel : decode zY_45.2.1 13 = .ok (.iconst 0, 1)) (by decide +kernel)
theorem zf_zm_45_8 (env : List (Nat × Nat)) : zR9 45 env (14, 11, 3, 0, 0) := zi_zret (by decide +kernel : decode (zYf 45).2.1 14 = .ok (.ireturn, 1)) rfl
set_option maxRecDepth 100000 in
theorem zc_zm_45 (env : List (Nat × Nat)) : zcode zX (z_QF zEX zcl zft) (z_zm zEX zX zWL zcl zft zYf) zYf zW zET zcl zft (zGv env) 45 zm_45 zm_45.1 := ⟨Or.inl ⟨1, zf_zm_45_0 env, zpc_c⟩,
  Or.inl ⟨4, zf_zm_45_1 env, zpc_c⟩,
  Or.inl ⟨5, zf_zm_45_2 env, zpc_c⟩,
  Or.inl ⟨6, zf_zm_45_3 env, zpc_c⟩,
  Or.inl ⟨9, zf_zm_45_4 env, zpc_c⟩,
  Or.inl ⟨10, zf_zm_45_5 env, zpc_c⟩,
  Or.inl ⟨13, zf_zm_45_6 env, zpc_c⟩,
  Or.inl ⟨14, zf_zm_45_7 env, zpc_c⟩,
  Or.inr (Or.inl (zf_zm_45_8 env)), trivial⟩
theorem zf_zm_46_0 (env : List (Nat × Nat)) : zI9 46 zY_46 zm_46 env (0, 0, 0, 0, 0) 1 := zi_aload_n (by decide +kernel : decode zY_46.2.1 0 = .ok (.aload_n 0, 1)) rfl
theorem zf_zm_46_1 (env : List (Nat × Nat)) : zI9 46 zY_46 zm_46 env (1, 0, 0, 0, 0) 2 := zi_aload_n (by decide +kernel : decode zY_46.2.1 1 = .ok (.aload_n 0, 1)) rfl
theorem zf_zm_46_2 (env : List (Nat × Nat)) : zI9 46 zY_46 zm_46 env (2, 1, 1, 2, 0) 5 := zi_getf (i := 99) (N := 23) (C := "TransportPairModel") (ref := "TransportPairModel") (T := zF_1) (by decide +kernel : decode zY_46.2.1 2 = .ok (.getfield 99, 3)) rfl zuw_1 (by decide) (zw_T zwd_258) rfl
theorem zf_zm_46_3 (env : List (Nat × Nat)) : zI9 46 zY_46 zm_46 env (5, 2, 20, 0, 0) 7 := zi_bipush (by decide +kernel : decode zY_46.2.1 5 = .ok (.bipush 20, 2)) (by decide +kernel)
theorem zf_zm_46_4 (env : List (Nat × Nat)) : zI9 46 zY_46 zm_46 env (7, 9, 0, 0, 0) 8 := zi_iadd (by decide +kernel : decode zY_46.2.1 7 = .ok (.iadd, 1))
theorem zf_zm_46_5 (env : List (Nat × Nat)) : zI9 46 zY_46 zm_46 env (8, 2, 65536, 0, 0) 10 := zi_ldc (v := 65536) (by decide +kernel : decode zY_46.2.1 8 = .ok (.ldc 7, 2)) (by decide +kernel) (zw_T zwd_211)
theorem zf_zm_46_6 (env : List (Nat × Nat)) : zI9 46 zY_46 zm_46 env (10, 27, 8, 0, 0) 13 := zi_icmp_le (off := 7) (t := 17) (by decide +kernel : decode zY_46.2.1 10 = .ok (.if_icmp .le 7, 3)) (by decide) (by decide +kernel)
theorem zf_zm_46_7 (env : List (Nat × Nat)) : zI9 46 zY_46 zm_46 env (13, 99, 0, 0, 0) 17 := zi_none
theorem zf_zm_46_8 (env : List (Nat × Nat)) : zI9 46 zY_46 zm_46 env (17, 2, 0, 0, 0) 18 := zi_iconst (by decide +kernel : decode zY_46.2.1 17 = .ok (.iconst 0, 1)) (by decide +kernel)
theorem zf_zm_46_9 (env : List (Nat × Nat)) : zI9 46 zY_46 zm_46 env (18, 2, 1, 0, 0) 19 := zi_iconst (by decide +kernel : decode zY_46.2.1 18 = .ok (.iconst 1, 1)) (by decide +kernel)
theorem zf_zm_46_10 (env : List (Nat × Nat)) : zC9 46 zm_46 env (19, 66, 44, 195, 3) := zi_call (by decide +kernel) (zr_V (i := 102) (n := 2) (q := ("TransportPairModel", zF_1, 23)) zX_ok rfl (zgood_44) (by decide +kernel) (zw_T zwd_250) (zw_T zwd_259) (zw_T zwd_260) rfl (zw_T (zt_sel (y := ⟨"TransportPairModel","fails","(ZI)Z"⟩) (n := 23) 102 (by decide +kernel))) ⟨by decide +kernel, by decide +kernel, by decide +kernel⟩ rfl (by decide +kernel : decode (zYf 46).2.1 19 = .ok (.invokevirtual 102, 3)))
theorem zf_zm_46_11 (env : List (Nat × Nat)) : zI9 46 zY_46 zm_46 env (22, 5, 13, 0, 0) 25 := zi_if_eq (off := 5) (t := 27) (by decide +kernel : decode zY_46.2.1 22 = .ok (.ifCond .eq 5, 3)) (by decide) (by decide +kernel)
theorem zf_zm_46_12 (env : List (Nat × Nat)) : zI9 46 zY_46 zm_46 env (25, 99, 0, 0, 0) 27 := zi_none
theorem zf_zm_46_13 (env : List (Nat × Nat)) : zI9 46 zY_46 zm_46 env (27, 2, 0, 0, 0) 28 := zi_iconst (by decide +kernel : decode zY_46.2.1 27 = .ok (.iconst 0, 1)) (by decide +kernel)
theorem zf_zm_46_14 (env : List (Nat × Nat)) : zI9 46 zY_46 zm_46 env (28, 10, 6, 0, 0) 30 := zi_istore (by decide +kernel : decode zY_46.2.1 28 = .ok (.istore 6, 2)) (by decide)
theorem zf_zm_46_15 (env : List (Nat × Nat)) : zI9 46 zY_46 zm_46 env (30, 63, 6, 0, 0) 32 := zi_iload (by decide +kernel : decode zY_46.2.1 30 = .ok (.iload 6, 2))
theorem zf_zm_46_16 (env : List (Nat × Nat)) : zI9 46 zY_46 zm_46 env (32, 2, 20, 0, 0) 34 := zi_bipush (by decide +kernel : decode zY_46.2.1 32 = .ok (.bipush 20, 2)) (by decide +kernel)
theorem zf_zm_46_17 (env : List (Nat × Nat)) : zI9 46 zY_46 zm_46 env (34, 28, 63, 0, 0) 37 := zi_icmp_ge (off := 90) (t := 124) (by decide +kernel : decode zY_46.2.1 34 = .ok (.if_icmp .ge 90, 3)) (by decide) (by decide +kernel)
theorem zf_zm_46_18 (env : List (Nat × Nat)) : zI9 46 zY_46 zm_46 env (37, 63, 6, 0, 0) 39 := zi_iload (by decide +kernel : decode zY_46.2.1 37 = .ok (.iload 6, 2))
theorem zf_zm_46_19 (env : List (Nat × Nat)) : zI9 46 zY_46 zm_46 env (39, 2, 4, 0, 0) 40 := zi_iconst (by decide +kernel : decode zY_46.2.1 39 = .ok (.iconst 4, 1)) (by decide +kernel)
theorem zf_zm_46_20 (env : List (Nat × Nat)) : zI9 46 zY_46 zm_46 env (40, 28, 23, 0, 0) 43 := zi_icmp_ge (off := 7) (t := 47) (by decide +kernel : decode zY_46.2.1 40 = .ok (.if_icmp .ge 7, 3)) (by decide) (by decide +kernel)
theorem zf_zm_46_21 (env : List (Nat × Nat)) : zI9 46 zY_46 zm_46 env (43, 63, 1, 0, 0) 44 := zi_iload_n (by decide +kernel : decode zY_46.2.1 43 = .ok (.iload_n 1, 1)) rfl
theorem zf_zm_46_22 (env : List (Nat × Nat)) : zI9 46 zY_46 zm_46 env (44, 7, 39, 0, 0) 47 := zi_goto (off := 39) (t := 83) (by decide +kernel : decode zY_46.2.1 44 = .ok (.goto 39, 3)) (by decide) (by decide +kernel)
theorem zf_zm_46_23 (env : List (Nat × Nat)) : zI9 46 zY_46 zm_46 env (47, 63, 6, 0, 0) 49 := zi_iload (by decide +kernel : decode zY_46.2.1 47 = .ok (.iload 6, 2))
theorem zf_zm_46_24 (env : List (Nat × Nat)) : zI9 46 zY_46 zm_46 env (49, 2, 8, 0, 0) 51 := zi_bipush (by decide +kernel : decode zY_46.2.1 49 = .ok (.bipush 8, 2)) (by decide +kernel)
theorem zf_zm_46_25 (env : List (Nat × Nat)) : zI9 46 zY_46 zm_46 env (51, 28, 28, 0, 0) 54 := zi_icmp_ge (off := 7) (t := 58) (by decide +kernel : decode zY_46.2.1 51 = .ok (.if_icmp .ge 7, 3)) (by decide) (by decide +kernel)
theorem zf_zm_46_26 (env : List (Nat × Nat)) : zI9 46 zY_46 zm_46 env (54, 63, 2, 0, 0) 55 := zi_iload_n (by decide +kernel : decode zY_46.2.1 54 = .ok (.iload_n 2, 1)) rfl
theorem zf_zm_46_27 (env : List (Nat × Nat)) : zI9 46 zY_46 zm_46 env (55, 7, 39, 0, 0) 58 := zi_goto (off := 28) (t := 83) (by decide +kernel : decode zY_46.2.1 55 = .ok (.goto 28, 3)) (by decide) (by decide +kernel)
theorem zf_zm_46_28 (env : List (Nat × Nat)) : zI9 46 zY_46 zm_46 env (58, 63, 6, 0, 0) 60 := zi_iload (by decide +kernel : decode zY_46.2.1 58 = .ok (.iload 6, 2))
theorem zf_zm_46_29 (env : List (Nat × Nat)) : zI9 46 zY_46 zm_46 env (60, 2, 12, 0, 0) 62 := zi_bipush (by decide +kernel : decode zY_46.2.1 60 = .ok (.bipush 12, 2)) (by decide +kernel)
theorem zf_zm_46_30 (env : List (Nat × Nat)) : zI9 46 zY_46 zm_46 env (62, 28, 33, 0, 0) 65 := zi_icmp_ge (off := 7) (t := 69) (by decide +kernel : decode zY_46.2.1 62 = .ok (.if_icmp .ge 7, 3)) (by decide) (by decide +kernel)
theorem zf_zm_46_31 (env : List (Nat × Nat)) : zI9 46 zY_46 zm_46 env (65, 63, 3, 0, 0) 66 := zi_iload_n (by decide +kernel : decode zY_46.2.1 65 = .ok (.iload_n 3, 1)) rfl
theorem zf_zm_46_32 (env : List (Nat × Nat)) : zI9 46 zY_46 zm_46 env (66, 7, 39, 0, 0) 69 := zi_goto (off := 17) (t := 83) (by decide +kernel : decode zY_46.2.1 66 = .ok (.goto 17, 3)) (by decide) (by decide +kernel)
theorem zf_zm_46_33 (env : List (Nat × Nat)) : zI9 46 zY_46 zm_46 env (69, 63, 6, 0, 0) 71 := zi_iload (by decide +kernel : decode zY_46.2.1 69 = .ok (.iload 6, 2))
theorem zf_zm_46_34 (env : List (Nat × Nat)) : zI9 46 zY_46 zm_46 env (71, 2, 16, 0, 0) 73 := zi_bipush (by decide +kernel : decode zY_46.2.1 71 = .ok (.bipush 16, 2)) (by decide +kernel)
theorem zf_zm_46_35 (env : List (Nat × Nat)) : zI9 46 zY_46 zm_46 env (73, 28, 38, 0, 0) 76 := zi_icmp_ge (off := 8) (t := 81) (by decide +kernel : decode zY_46.2.1 73 = .ok (.if_icmp .ge 8, 3)) (by decide) (by decide +kernel)
theorem zf_zm_46_36 (env : List (Nat × Nat)) : zI9 46 zY_46 zm_46 env (76, 63, 4, 0, 0) 78 := zi_iload (by decide +kernel : decode zY_46.2.1 76 = .ok (.iload 4, 2))
theorem zf_zm_46_37 (env : List (Nat × Nat)) : zI9 46 zY_46 zm_46 env (78, 7, 39, 0, 0) 81 := zi_goto (off := 5) (t := 83) (by decide +kernel : decode zY_46.2.1 78 = .ok (.goto 5, 3)) (by decide) (by decide +kernel)
theorem zf_zm_46_38 (env : List (Nat × Nat)) : zI9 46 zY_46 zm_46 env (81, 63, 5, 0, 0) 83 := zi_iload (by decide +kernel : decode zY_46.2.1 81 = .ok (.iload 5, 2))
theorem zf_zm_46_39 (env : List (Nat × Nat)) : zI9 46 zY_46 zm_46 env (83, 10, 7, 0, 0) 85 := zi_istore (by decide +kernel : decode zY_46.2.1 83 = .ok (.istore 7, 2)) (by decide)
theorem zf_zm_46_40 (env : List (Nat × Nat)) : zI9 46 zY_46 zm_46 env (85, 0, 0, 0, 0) 86 := zi_aload_n (by decide +kernel : decode zY_46.2.1 85 = .ok (.aload_n 0, 1)) rfl
theorem zf_zm_46_41 (env : List (Nat × Nat)) : zI9 46 zY_46 zm_46 env (86, 1, 1, 1, 2) 89 := zi_getf (i := 8) (N := 23) (C := "TransportPairModel") (ref := "TransportPairModel") (T := zF_1) (by decide +kernel : decode zY_46.2.1 86 = .ok (.getfield 8, 3)) rfl zuw_1 (by decide) (zw_T zwd_212) rfl
theorem zf_zm_46_42 (env : List (Nat × Nat)) : zI9 46 zY_46 zm_46 env (89, 0, 0, 0, 0) 90 := zi_aload_n (by decide +kernel : decode zY_46.2.1 89 = .ok (.aload_n 0, 1)) rfl
theorem zf_zm_46_43 (env : List (Nat × Nat)) : zI9 46 zY_46 zm_46 env (90, 1, 1, 2, 0) 93 := zi_getf (i := 99) (N := 23) (C := "TransportPairModel") (ref := "TransportPairModel") (T := zF_1) (by decide +kernel : decode zY_46.2.1 90 = .ok (.getfield 99, 3)) rfl zuw_1 (by decide) (zw_T zwd_258) rfl
theorem zf_zm_46_44 (env : List (Nat × Nat)) : zI9 46 zY_46 zm_46 env (93, 63, 7, 0, 0) 95 := zi_iload (by decide +kernel : decode zY_46.2.1 93 = .ok (.iload 7, 2))
theorem zf_zm_46_45 (env : List (Nat × Nat)) : zI9 46 zY_46 zm_46 env (95, 2, 24, 0, 0) 97 := zi_bipush (by decide +kernel : decode zY_46.2.1 95 = .ok (.bipush 24, 2)) (by decide +kernel)
theorem zf_zm_46_46 (env : List (Nat × Nat)) : zI9 46 zY_46 zm_46 env (97, 2, 8, 0, 0) 99 := zi_bipush (by decide +kernel : decode zY_46.2.1 97 = .ok (.bipush 8, 2)) (by decide +kernel)
theorem zf_zm_46_47 (env : List (Nat × Nat)) : zI9 46 zY_46 zm_46 env (99, 63, 6, 0, 0) 101 := zi_iload (by decide +kernel : decode zY_46.2.1 99 = .ok (.iload 6, 2))
theorem zf_zm_46_48 (env : List (Nat × Nat)) : zI9 46 zY_46 zm_46 env (101, 2, 4, 0, 0) 102 := zi_iconst (by decide +kernel : decode zY_46.2.1 101 = .ok (.iconst 4, 1)) (by decide +kernel)
theorem zf_zm_46_49 (env : List (Nat × Nat)) : zI9 46 zY_46 zm_46 env (102, 54, 0, 0, 0) 103 := zi_irem (by decide +kernel : decode zY_46.2.1 102 = .ok (.irem, 1))
theorem zf_zm_46_50 (env : List (Nat × Nat)) : zI9 46 zY_46 zm_46 env (103, 36, 0, 0, 0) 104 := zi_imul (by decide +kernel : decode zY_46.2.1 103 = .ok (.imul, 1))
theorem zf_zm_46_51 (env : List (Nat × Nat)) : zI9 46 zY_46 zm_46 env (104, 37, 0, 0, 0) 105 := zi_isub (by decide +kernel : decode zY_46.2.1 104 = .ok (.isub, 1))
theorem zf_zm_46_52 (env : List (Nat × Nat)) : zI9 46 zY_46 zm_46 env (105, 55, 0, 0, 0) 106 := zi_ishr (by decide +kernel : decode zY_46.2.1 105 = .ok (.ishr, 1))
theorem zf_zm_46_53 (env : List (Nat × Nat)) : zI9 46 zY_46 zm_46 env (106, 48, 0, 0, 0) 107 := zi_i2b (by decide +kernel : decode zY_46.2.1 106 = .ok (.i2b, 1))
theorem zf_zm_46_54 (env : List (Nat × Nat)) : zI9 46 zY_46 zm_46 env (107, 46, 0, 0, 0) 108 := zi_bast (by decide +kernel : decode zY_46.2.1 107 = .ok (.bastore, 1))
theorem zf_zm_46_55 (env : List (Nat × Nat)) : zI9 46 zY_46 zm_46 env (108, 0, 0, 0, 0) 109 := zi_aload_n (by decide +kernel : decode zY_46.2.1 108 = .ok (.aload_n 0, 1)) rfl
theorem zf_zm_46_56 (env : List (Nat × Nat)) : zI9 46 zY_46 zm_46 env (109, 13, 0, 0, 0) 110 := zi_dup (by decide +kernel : decode zY_46.2.1 109 = .ok (.dup, 1))
theorem zf_zm_46_57 (env : List (Nat × Nat)) : zI9 46 zY_46 zm_46 env (110, 1, 1, 2, 0) 113 := zi_getf (i := 99) (N := 23) (C := "TransportPairModel") (ref := "TransportPairModel") (T := zF_1) (by decide +kernel : decode zY_46.2.1 110 = .ok (.getfield 99, 3)) rfl zuw_1 (by decide) (zw_T zwd_258) rfl
theorem zf_zm_46_58 (env : List (Nat × Nat)) : zI9 46 zY_46 zm_46 env (113, 2, 1, 0, 0) 114 := zi_iconst (by decide +kernel : decode zY_46.2.1 113 = .ok (.iconst 1, 1)) (by decide +kernel)
theorem zf_zm_46_59 (env : List (Nat × Nat)) : zI9 46 zY_46 zm_46 env (114, 9, 0, 0, 0) 115 := zi_iadd (by decide +kernel : decode zY_46.2.1 114 = .ok (.iadd, 1))
theorem zf_zm_46_60 (env : List (Nat × Nat)) : zI9 46 zY_46 zm_46 env (115, 4, 1, 2, 0) 118 := zi_putf (i := 99) (N := 23) (C := "TransportPairModel") (ref := "TransportPairModel") (T := zF_1) (by decide +kernel : decode zY_46.2.1 115 = .ok (.putfield 99, 3)) rfl zuw_1 zFt_1 zFn_1 (by decide) (zw_T zwd_258) rfl rfl (ty := .int) (by decide +kernel) (rfl)
theorem zf_zm_46_61 (env : List (Nat × Nat)) : zI9 46 zY_46 zm_46 env (118, 35, 6, 1, 0) 121 := zi_iinc (by decide +kernel : decode zY_46.2.1 118 = .ok (.iinc 6 1, 3)) (by decide +kernel) (by decide)
theorem zf_zm_46_62 (env : List (Nat × Nat)) : zI9 46 zY_46 zm_46 env (121, 7, 15, 0, 0) 124 := zi_goto (off := (-91)) (t := 30) (by decide +kernel : decode zY_46.2.1 121 = .ok (.goto (-91), 3)) (by decide) (by decide +kernel)
theorem zf_zm_46_63 (env : List (Nat × Nat)) : zI9 46 zY_46 zm_46 env (124, 0, 0, 0, 0) 125 := zi_aload_n (by decide +kernel : decode zY_46.2.1 124 = .ok (.aload_n 0, 1)) rfl
theorem zf_zm_46_64 (env : List (Nat × Nat)) : zI9 46 zY_46 zm_46 env (125, 1, 1, 2, 0) 128 := zi_getf (i := 99) (N := 23) (C := "TransportPairModel") (ref := "TransportPairModel") (T := zF_1) (by decide +kernel : decode zY_46.2.1 125 = .ok (.getfield 99, 3)) rfl zuw_1 (by decide) (zw_T zwd_258) rfl
theorem zf_zm_46_65 (env : List (Nat × Nat)) : zR9 46 env (128, 11, 0, 0, 0) := zi_iret (by decide +kernel : decode (zYf 46).2.1 128 = .ok (.ireturn, 1)) rfl
set_option maxRecDepth 100000 in
theorem zc_zm_46 (env : List (Nat × Nat)) : zcode zX (z_QF zEX zcl zft) (z_zm zEX zX zWL zcl zft zYf) zYf zW zET zcl zft (zGv env) 46 zm_46 zm_46.1 := ⟨Or.inl ⟨1, zf_zm_46_0 env, zpc_c⟩,
  Or.inl ⟨2, zf_zm_46_1 env, zpc_c⟩,
  Or.inl ⟨5, zf_zm_46_2 env, zpc_c⟩,
  Or.inl ⟨7, zf_zm_46_3 env, zpc_c⟩,
  Or.inl ⟨8, zf_zm_46_4 env, zpc_c⟩,
  Or.inl ⟨10, zf_zm_46_5 env, zpc_c⟩,
  Or.inl ⟨13, zf_zm_46_6 env, zpc_c⟩,
  Or.inl ⟨17, zf_zm_46_7 env, zpc_c⟩,
  Or.inl ⟨18, zf_zm_46_8 env, zpc_c⟩,
  Or.inl ⟨19, zf_zm_46_9 env, zpc_c⟩,
  Or.inr (Or.inr (Or.inl ⟨zf_zm_46_10 env, zpc_c⟩)),
  Or.inl ⟨25, zf_zm_46_11 env, zpc_c⟩,
  Or.inl ⟨27, zf_zm_46_12 env, zpc_c⟩,
  Or.inl ⟨28, zf_zm_46_13 env, zpc_c⟩,
  Or.inl ⟨30, zf_zm_46_14 env, zpc_c⟩,
  Or.inl ⟨32, zf_zm_46_15 env, zpc_c⟩,
  Or.inl ⟨34, zf_zm_46_16 env, zpc_c⟩,
  Or.inl ⟨37, zf_zm_46_17 env, zpc_c⟩,
  Or.inl ⟨39, zf_zm_46_18 env, zpc_c⟩,
  Or.inl ⟨40, zf_zm_46_19 env, zpc_c⟩,
  Or.inl ⟨43, zf_zm_46_20 env, zpc_c⟩,
  Or.inl ⟨44, zf_zm_46_21 env, zpc_c⟩,
  Or.inl ⟨47, zf_zm_46_22 env, zpc_c⟩,
  Or.inl ⟨49, zf_zm_46_23 env, zpc_c⟩,
  Or.inl ⟨51, zf_zm_46_24 env, zpc_c⟩,
  Or.inl ⟨54, zf_zm_46_25 env, zpc_c⟩,
  Or.inl ⟨55, zf_zm_46_26 env, zpc_c⟩,
  Or.inl ⟨58, zf_zm_46_27 env, zpc_c⟩,
  Or.inl ⟨60, zf_zm_46_28 env, zpc_c⟩,
  Or.inl ⟨62, zf_zm_46_29 env, zpc_c⟩,
  Or.inl ⟨65, zf_zm_46_30 env, zpc_c⟩,
  Or.inl ⟨66, zf_zm_46_31 env, zpc_c⟩,
  Or.inl ⟨69, zf_zm_46_32 env, zpc_c⟩,
  Or.inl ⟨71, zf_zm_46_33 env, zpc_c⟩,
  Or.inl ⟨73, zf_zm_46_34 env, zpc_c⟩,
  Or.inl ⟨76, zf_zm_46_35 env, zpc_c⟩,
  Or.inl ⟨78, zf_zm_46_36 env, zpc_c⟩,
  Or.inl ⟨81, zf_zm_46_37 env, zpc_c⟩,
  Or.inl ⟨83, zf_zm_46_38 env, zpc_c⟩,
  Or.inl ⟨85, zf_zm_46_39 env, zpc_c⟩,
  Or.inl ⟨86, zf_zm_46_40 env, zpc_c⟩,
  Or.inl ⟨89, zf_zm_46_41 env, zpc_c⟩,
  Or.inl ⟨90, zf_zm_46_42 env, zpc_c⟩,
  Or.inl ⟨93, zf_zm_46_43 env, zpc_c⟩,
  Or.inl ⟨95, zf_zm_46_44 env, zpc_c⟩,
  Or.inl ⟨97, zf_zm_46_45 env, zpc_c⟩,
  Or.inl ⟨99, zf_zm_46_46 env, zpc_c⟩,
  Or.inl ⟨101, zf_zm_46_47 env, zpc_c⟩,
  Or.inl ⟨102, zf_zm_46_48 env, zpc_c⟩,
  Or.inl ⟨103, zf_zm_46_49 env, zpc_c⟩,
  Or.inl ⟨104, zf_zm_46_50 env, zpc_c⟩,
  Or.inl ⟨105, zf_zm_46_51 env, zpc_c⟩,
  Or.inl ⟨106, zf_zm_46_52 env, zpc_c⟩,
  Or.inl ⟨107, zf_zm_46_53 env, zpc_c⟩,
  Or.inl ⟨108, zf_zm_46_54 env, zpc_c⟩,
  Or.inl ⟨109, zf_zm_46_55 env, zpc_c⟩,
  Or.inl ⟨110, zf_zm_46_56 env, zpc_c⟩,
  Or.inl ⟨113, zf_zm_46_57 env, zpc_c⟩,
  Or.inl ⟨114, zf_zm_46_58 env, zpc_c⟩,
  Or.inl ⟨115, zf_zm_46_59 env, zpc_c⟩,
  Or.inl ⟨118, zf_zm_46_60 env, zpc_c⟩,
  Or.inl ⟨121, zf_zm_46_61 env, zpc_c⟩,
  Or.inl ⟨124, zf_zm_46_62 env, zpc_c⟩,
  Or.inl ⟨125, zf_zm_46_63 env, zpc_c⟩,
  Or.inl ⟨128, zf_zm_46_64 env, zpc_c⟩,
  Or.inr (Or.inl (zf_zm_46_65 env)), trivial⟩
theorem zf_zm_47_0 (env : List (Nat × Nat)) : zI9 47 zY_47 zm_47 env (0, 0, 0, 0, 0) 1 := zi_aload_n (by decide +kernel : decode zY_47.2.1 0 = .ok (.aload_n 0, 1)) rfl
theorem zf_zm_47_1 (env : List (Nat × Nat)) : zI9 47 zY_47 zm_47 env (1, 63, 1, 0, 0) 2 := zi_iload_n (by decide +kernel : decode zY_47.2.1 1 = .ok (.iload_n 1, 1)) rfl
theorem zf_zm_47_2 (env : List (Nat × Nat)) : zI9 47 zY_47 zm_47 env (2, 22, 7, 0, 0) 5 := zi_if_lt (off := 11) (t := 13) (by decide +kernel : decode zY_47.2.1 2 = .ok (.ifCond .lt 11, 3)) (by decide) (by decide +kernel)
theorem zf_zm_47_3 (env : List (Nat × Nat)) : zI9 47 zY_47 zm_47 env (5, 63, 1, 0, 0) 6 := zi_iload_n (by decide +kernel : decode zY_47.2.1 5 = .ok (.iload_n 1, 1)) rfl
theorem zf_zm_47_4 (env : List (Nat × Nat)) : zI9 47 zY_47 zm_47 env (6, 0, 0, 0, 0) 7 := zi_aload_n (by decide +kernel : decode zY_47.2.1 6 = .ok (.aload_n 0, 1)) rfl
theorem zf_zm_47_5 (env : List (Nat × Nat)) : zI9 47 zY_47 zm_47 env (7, 1, 1, 2, 0) 10 := zi_getf (i := 99) (N := 23) (C := "TransportPairModel") (ref := "TransportPairModel") (T := zF_1) (by decide +kernel : decode zY_47.2.1 7 = .ok (.getfield 99, 3)) rfl zuw_1 (by decide) (zw_T zwd_258) rfl
theorem zf_zm_47_6 (env : List (Nat × Nat)) : zI9 47 zY_47 zm_47 env (10, 27, 9, 0, 0) 13 := zi_icmp_le (off := 7) (t := 17) (by decide +kernel : decode zY_47.2.1 10 = .ok (.if_icmp .le 7, 3)) (by decide) (by decide +kernel)
theorem zf_zm_47_7 (env : List (Nat × Nat)) : zI9 47 zY_47 zm_47 env (13, 2, 1, 0, 0) 14 := zi_iconst (by decide +kernel : decode zY_47.2.1 13 = .ok (.iconst 1, 1)) (by decide +kernel)
theorem zf_zm_47_8 (env : List (Nat × Nat)) : zI9 47 zY_47 zm_47 env (14, 7, 10, 0, 0) 17 := zi_goto (off := 4) (t := 18) (by decide +kernel : decode zY_47.2.1 14 = .ok (.goto 4, 3)) (by decide) (by decide +kernel)
theorem zf_zm_47_9 (env : List (Nat × Nat)) : zI9 47 zY_47 zm_47 env (17, 2, 0, 0, 0) 18 := zi_iconst (by decide +kernel : decode zY_47.2.1 17 = .ok (.iconst 0, 1)) (by decide +kernel)
theorem zf_zm_47_10 (env : List (Nat × Nat)) : zI9 47 zY_47 zm_47 env (18, 2, 1, 0, 0) 19 := zi_iconst (by decide +kernel : decode zY_47.2.1 18 = .ok (.iconst 1, 1)) (by decide +kernel)
theorem zf_zm_47_11 (env : List (Nat × Nat)) : zC9 47 zm_47 env (19, 66, 44, 195, 3) := zi_call (by decide +kernel) (zr_V (i := 102) (n := 2) (q := ("TransportPairModel", zF_1, 23)) zX_ok rfl (zgood_44) (by decide +kernel) (zw_T zwd_250) (zw_T zwd_259) (zw_T zwd_260) rfl (zw_T (zt_sel (y := ⟨"TransportPairModel","fails","(ZI)Z"⟩) (n := 23) 102 (by decide +kernel))) ⟨by decide +kernel, by decide +kernel, by decide +kernel⟩ rfl (by decide +kernel : decode (zYf 47).2.1 19 = .ok (.invokevirtual 102, 3)))
theorem zf_zm_47_12 (env : List (Nat × Nat)) : zI9 47 zY_47 zm_47 env (22, 5, 15, 0, 0) 25 := zi_if_eq (off := 5) (t := 27) (by decide +kernel : decode zY_47.2.1 22 = .ok (.ifCond .eq 5, 3)) (by decide) (by decide +kernel)
theorem zf_zm_47_13 (env : List (Nat × Nat)) : zI9 47 zY_47 zm_47 env (25, 2, 0, 0, 0) 26 := zi_iconst (by decide +kernel : decode zY_47.2.1 25 = .ok (.iconst 0, 1)) (by decide +kernel)
theorem zf_zm_47_14 (env : List (Nat × Nat)) : zR9 47 env (26, 11, 0, 0, 0) := zi_iret (by decide +kernel : decode (zYf 47).2.1 26 = .ok (.ireturn, 1)) rfl
theorem zf_zm_47_15 (env : List (Nat × Nat)) : zI9 47 zY_47 zm_47 env (27, 0, 0, 0, 0) 28 := zi_aload_n (by decide +kernel : decode zY_47.2.1 27 = .ok (.aload_n 0, 1)) rfl
theorem zf_zm_47_16 (env : List (Nat × Nat)) : zI9 47 zY_47 zm_47 env (28, 1, 1, 2, 0) 31 := zi_getf (i := 99) (N := 23) (C := "TransportPairModel") (ref := "TransportPairModel") (T := zF_1) (by decide +kernel : decode zY_47.2.1 28 = .ok (.getfield 99, 3)) rfl zuw_1 (by decide) (zw_T zwd_258) rfl
theorem zf_zm_47_17 (env : List (Nat × Nat)) : zI9 47 zY_47 zm_47 env (31, 10, 2, 0, 0) 32 := zi_istore_n (by decide +kernel : decode zY_47.2.1 31 = .ok (.istore_n 2, 1)) rfl (by decide)
theorem zf_zm_47_18 (env : List (Nat × Nat)) : zI9 47 zY_47 zm_47 env (32, 0, 0, 0, 0) 33 := zi_aload_n (by decide +kernel : decode zY_47.2.1 32 = .ok (.aload_n 0, 1)) rfl
theorem zf_zm_47_19 (env : List (Nat × Nat)) : zI9 47 zY_47 zm_47 env (33, 63, 1, 0, 0) 34 := zi_iload_n (by decide +kernel : decode zY_47.2.1 33 = .ok (.iload_n 1, 1)) rfl
theorem zf_zm_47_20 (env : List (Nat × Nat)) : zI9 47 zY_47 zm_47 env (34, 4, 1, 2, 0) 37 := zi_putf (i := 99) (N := 23) (C := "TransportPairModel") (ref := "TransportPairModel") (T := zF_1) (by decide +kernel : decode zY_47.2.1 34 = .ok (.putfield 99, 3)) rfl zuw_1 zFt_1 zFn_1 (by decide) (zw_T zwd_258) rfl rfl (ty := .int) (by decide +kernel) (rfl)
theorem zf_zm_47_21 (env : List (Nat × Nat)) : zI9 47 zY_47 zm_47 env (37, 63, 2, 0, 0) 38 := zi_iload_n (by decide +kernel : decode zY_47.2.1 37 = .ok (.iload_n 2, 1)) rfl
theorem zf_zm_47_22 (env : List (Nat × Nat)) : zR9 47 env (38, 11, 0, 0, 0) := zi_iret (by decide +kernel : decode (zYf 47).2.1 38 = .ok (.ireturn, 1)) rfl
set_option maxRecDepth 100000 in
theorem zc_zm_47 (env : List (Nat × Nat)) : zcode zX (z_QF zEX zcl zft) (z_zm zEX zX zWL zcl zft zYf) zYf zW zET zcl zft (zGv env) 47 zm_47 zm_47.1 := ⟨Or.inl ⟨1, zf_zm_47_0 env, zpc_c⟩,
  Or.inl ⟨2, zf_zm_47_1 env, zpc_c⟩,
  Or.inl ⟨5, zf_zm_47_2 env, zpc_c⟩,
  Or.inl ⟨6, zf_zm_47_3 env, zpc_c⟩,
  Or.inl ⟨7, zf_zm_47_4 env, zpc_c⟩,
  Or.inl ⟨10, zf_zm_47_5 env, zpc_c⟩,
  Or.inl ⟨13, zf_zm_47_6 env, zpc_c⟩,
  Or.inl ⟨14, zf_zm_47_7 env, zpc_c⟩,
  Or.inl ⟨17, zf_zm_47_8 env, zpc_c⟩,
  Or.inl ⟨18, zf_zm_47_9 env, zpc_c⟩,
  Or.inl ⟨19, zf_zm_47_10 env, zpc_c⟩,
  Or.inr (Or.inr (Or.inl ⟨zf_zm_47_11 env, zpc_c⟩)),
  Or.inl ⟨25, zf_zm_47_12 env, zpc_c⟩,
  Or.inl ⟨26, zf_zm_47_13 env, zpc_c⟩,
  Or.inr (Or.inl (zf_zm_47_14 env)),
  Or.inl ⟨28, zf_zm_47_15 env, zpc_c⟩,
  Or.inl ⟨31, zf_zm_47_16 env, zpc_c⟩,
  Or.inl ⟨32, zf_zm_47_17 env, zpc_c⟩,
  Or.inl ⟨33, zf_zm_47_18 env, zpc_c⟩,
  Or.inl ⟨34, zf_zm_47_19 env, zpc_c⟩,
  Or.inl ⟨37, zf_zm_47_20 env, zpc_c⟩,
  Or.inl ⟨38, zf_zm_47_21 env, zpc_c⟩,
  Or.inr (Or.inl (zf_zm_47_22 env)), trivial⟩
theorem zf_zm_48_0 (env : List (Nat × Nat)) : zI9 48 zY_48 zm_48 env (0, 0, 0, 0, 0) 1 := zi_aload_n (by decide +kernel : decode zY_48.2.1 0 = .ok (.aload_n 0, 1)) rfl
theorem zf_zm_48_1 (env : List (Nat × Nat)) : zI9 48 zY_48 zm_48 env (1, 63, 1, 0, 0) 2 := zi_iload_n (by decide +kernel : decode zY_48.2.1 1 = .ok (.iload_n 1, 1)) rfl
theorem zf_zm_48_2 (env : List (Nat × Nat)) : zC9 48 zm_48 env (2, 66, 45, 65, 0) := zi_call (by decide +kernel) (zr_S (i := 106) zX_ok rfl (zgood_45) (by decide +kernel) (zw_T zwd_250) (zw_T zwd_261) (zw_T zwd_262) ⟨by decide +kernel, by decide +kernel, by decide +kernel⟩ (by decide +kernel : decode (zYf 48).2.1 2 = .ok (.invokestatic 106, 3)))
theorem zf_zm_48_3 (env : List (Nat × Nat)) : zI9 48 zY_48 zm_48 env (5, 6, 8, 0, 0) 8 := zi_if_ne (off := 12) (t := 17) (by decide +kernel : decode zY_48.2.1 5 = .ok (.ifCond .ne 12, 3)) (by decide) (by decide +kernel)
theorem zf_zm_48_4 (env : List (Nat × Nat)) : zI9 48 zY_48 zm_48 env (8, 0, 0, 0, 0) 9 := zi_aload_n (by decide +kernel : decode zY_48.2.1 8 = .ok (.aload_n 0, 1)) rfl
theorem zf_zm_48_5 (env : List (Nat × Nat)) : zI9 48 zY_48 zm_48 env (9, 1, 1, 2, 0) 12 := zi_getf (i := 99) (N := 23) (C := "TransportPairModel") (ref := "TransportPairModel") (T := zF_1) (by decide +kernel : decode zY_48.2.1 9 = .ok (.getfield 99, 3)) rfl zuw_1 (by decide) (zw_T zwd_258) rfl
theorem zf_zm_48_6 (env : List (Nat × Nat)) : zI9 48 zY_48 zm_48 env (12, 2, 32, 0, 0) 14 := zi_bipush (by decide +kernel : decode zY_48.2.1 12 = .ok (.bipush 32, 2)) (by decide +kernel)
theorem zf_zm_48_7 (env : List (Nat × Nat)) : zI9 48 zY_48 zm_48 env (14, 20, 10, 0, 0) 17 := zi_icmp_eq (off := 7) (t := 21) (by decide +kernel : decode zY_48.2.1 14 = .ok (.if_icmp .eq 7, 3)) (by decide) (by decide +kernel)
theorem zf_zm_48_8 (env : List (Nat × Nat)) : zI9 48 zY_48 zm_48 env (17, 2, 1, 0, 0) 18 := zi_iconst (by decide +kernel : decode zY_48.2.1 17 = .ok (.iconst 1, 1)) (by decide +kernel)
theorem zf_zm_48_9 (env : List (Nat × Nat)) : zI9 48 zY_48 zm_48 env (18, 7, 11, 0, 0) 21 := zi_goto (off := 4) (t := 22) (by decide +kernel : decode zY_48.2.1 18 = .ok (.goto 4, 3)) (by decide) (by decide +kernel)
theorem zf_zm_48_10 (env : List (Nat × Nat)) : zI9 48 zY_48 zm_48 env (21, 99, 0, 0, 0) 22 := zi_none
theorem zf_zm_48_11 (env : List (Nat × Nat)) : zI9 48 zY_48 zm_48 env (22, 2, 1, 0, 0) 23 := zi_iconst (by decide +kernel : decode zY_48.2.1 22 = .ok (.iconst 1, 1)) (by decide +kernel)
theorem zf_zm_48_12 (env : List (Nat × Nat)) : zC9 48 zm_48 env (23, 66, 44, 195, 3) := zi_call (by decide +kernel) (zr_V (i := 102) (n := 2) (q := ("TransportPairModel", zF_1, 23)) zX_ok rfl (zgood_44) (by decide +kernel) (zw_T zwd_250) (zw_T zwd_259) (zw_T zwd_260) rfl (zw_T (zt_sel (y := ⟨"TransportPairModel","fails","(ZI)Z"⟩) (n := 23) 102 (by decide +kernel))) ⟨by decide +kernel, by decide +kernel, by decide +kernel⟩ rfl (by decide +kernel : decode (zYf 48).2.1 23 = .ok (.invokevirtual 102, 3)))
theorem zf_zm_48_13 (env : List (Nat × Nat)) : zI9 48 zY_48 zm_48 env (26, 6, 15, 0, 0) 29 := zi_if_ne (off := 28) (t := 54) (by decide +kernel : decode zY_48.2.1 26 = .ok (.ifCond .ne 28, 3)) (by decide) (by decide +kernel)
theorem zf_zm_48_14 (env : List (Nat × Nat)) : zI9 48 zY_48 zm_48 env (29, 99, 0, 0, 0) 54 := zi_none
theorem zf_zm_48_15 (env : List (Nat × Nat)) : zR9 48 env (54, 21, 0, 0, 0) := zi_vret (by decide +kernel : decode (zYf 48).2.1 54 = .ok (.return_, 1)) rfl
theorem zf_zm_48_16 (env : List (Nat × Nat)) : zI9 48 zY_48 zm_48 env (55, 99, 0, 0, 0) 0 := zi_none
set_option maxRecDepth 100000 in
theorem zc_zm_48 (env : List (Nat × Nat)) : zcode zX (z_QF zEX zcl zft) (z_zm zEX zX zWL zcl zft zYf) zYf zW zET zcl zft (zGv env) 48 zm_48 zm_48.1 := ⟨Or.inl ⟨1, zf_zm_48_0 env, zpc_c⟩,
  Or.inl ⟨2, zf_zm_48_1 env, zpc_c⟩,
  Or.inr (Or.inr (Or.inl ⟨zf_zm_48_2 env, zpc_c⟩)),
  Or.inl ⟨8, zf_zm_48_3 env, zpc_c⟩,
  Or.inl ⟨9, zf_zm_48_4 env, zpc_c⟩,
  Or.inl ⟨12, zf_zm_48_5 env, zpc_c⟩,
  Or.inl ⟨14, zf_zm_48_6 env, zpc_c⟩,
  Or.inl ⟨17, zf_zm_48_7 env, zpc_c⟩,
  Or.inl ⟨18, zf_zm_48_8 env, zpc_c⟩,
  Or.inl ⟨21, zf_zm_48_9 env, zpc_c⟩,
  Or.inl ⟨22, zf_zm_48_10 env, zpc_c⟩,
  Or.inl ⟨23, zf_zm_48_11 env, zpc_c⟩,
  Or.inr (Or.inr (Or.inl ⟨zf_zm_48_12 env, zpc_c⟩)),
  Or.inl ⟨29, zf_zm_48_13 env, zpc_c⟩,
  Or.inl ⟨54, zf_zm_48_14 env, zpc_c⟩,
  Or.inr (Or.inl (zf_zm_48_15 env)),
  Or.inl ⟨0, zf_zm_48_16 env, zpc_n⟩, trivial⟩
theorem zf_zm_49_0 (env : List (Nat × Nat)) : zI9 49 zY_49 zm_49 env (0, 0, 0, 0, 0) 1 := zi_aload_n (by decide +kernel : decode zY_49.2.1 0 = .ok (.aload_n 0, 1)) rfl
theorem zf_zm_49_1 (env : List (Nat × Nat)) : zI9 49 zY_49 zm_49 env (1, 63, 1, 0, 0) 2 := zi_iload_n (by decide +kernel : decode zY_49.2.1 1 = .ok (.iload_n 1, 1)) rfl
theorem zf_zm_49_2 (env : List (Nat × Nat)) : zC9 49 zm_49 env (2, 66, 45, 65, 0) := zi_call (by decide +kernel) (zr_S (i := 106) zX_ok rfl (zgood_45) (by decide +kernel) (zw_T zwd_250) (zw_T zwd_261) (zw_T zwd_262) ⟨by decide +kernel, by decide +kernel, by decide +kernel⟩ (by decide +kernel : decode (zYf 49).2.1 2 = .ok (.invokestatic 106, 3)))
theorem zf_zm_49_3 (env : List (Nat × Nat)) : zI9 49 zY_49 zm_49 env (5, 6, 8, 0, 0) 8 := zi_if_ne (off := 12) (t := 17) (by decide +kernel : decode zY_49.2.1 5 = .ok (.ifCond .ne 12, 3)) (by decide) (by decide +kernel)
theorem zf_zm_49_4 (env : List (Nat × Nat)) : zI9 49 zY_49 zm_49 env (8, 0, 0, 0, 0) 9 := zi_aload_n (by decide +kernel : decode zY_49.2.1 8 = .ok (.aload_n 0, 1)) rfl
theorem zf_zm_49_5 (env : List (Nat × Nat)) : zI9 49 zY_49 zm_49 env (9, 1, 1, 2, 0) 12 := zi_getf (i := 99) (N := 23) (C := "TransportPairModel") (ref := "TransportPairModel") (T := zF_1) (by decide +kernel : decode zY_49.2.1 9 = .ok (.getfield 99, 3)) rfl zuw_1 (by decide) (zw_T zwd_258) rfl
theorem zf_zm_49_6 (env : List (Nat × Nat)) : zI9 49 zY_49 zm_49 env (12, 2, 32, 0, 0) 14 := zi_bipush (by decide +kernel : decode zY_49.2.1 12 = .ok (.bipush 32, 2)) (by decide +kernel)
theorem zf_zm_49_7 (env : List (Nat × Nat)) : zI9 49 zY_49 zm_49 env (14, 20, 10, 0, 0) 17 := zi_icmp_eq (off := 7) (t := 21) (by decide +kernel : decode zY_49.2.1 14 = .ok (.if_icmp .eq 7, 3)) (by decide) (by decide +kernel)
theorem zf_zm_49_8 (env : List (Nat × Nat)) : zI9 49 zY_49 zm_49 env (17, 2, 1, 0, 0) 18 := zi_iconst (by decide +kernel : decode zY_49.2.1 17 = .ok (.iconst 1, 1)) (by decide +kernel)
theorem zf_zm_49_9 (env : List (Nat × Nat)) : zI9 49 zY_49 zm_49 env (18, 7, 11, 0, 0) 21 := zi_goto (off := 4) (t := 22) (by decide +kernel : decode zY_49.2.1 18 = .ok (.goto 4, 3)) (by decide) (by decide +kernel)
theorem zf_zm_49_10 (env : List (Nat × Nat)) : zI9 49 zY_49 zm_49 env (21, 99, 0, 0, 0) 22 := zi_none
theorem zf_zm_49_11 (env : List (Nat × Nat)) : zI9 49 zY_49 zm_49 env (22, 2, 1, 0, 0) 23 := zi_iconst (by decide +kernel : decode zY_49.2.1 22 = .ok (.iconst 1, 1)) (by decide +kernel)
theorem zf_zm_49_12 (env : List (Nat × Nat)) : zC9 49 zm_49 env (23, 66, 44, 195, 3) := zi_call (by decide +kernel) (zr_V (i := 102) (n := 2) (q := ("TransportPairModel", zF_1, 23)) zX_ok rfl (zgood_44) (by decide +kernel) (zw_T zwd_250) (zw_T zwd_259) (zw_T zwd_260) rfl (zw_T (zt_sel (y := ⟨"TransportPairModel","fails","(ZI)Z"⟩) (n := 23) 102 (by decide +kernel))) ⟨by decide +kernel, by decide +kernel, by decide +kernel⟩ rfl (by decide +kernel : decode (zYf 49).2.1 23 = .ok (.invokevirtual 102, 3)))
theorem zf_zm_49_13 (env : List (Nat × Nat)) : zI9 49 zY_49 zm_49 env (26, 6, 15, 0, 0) 29 := zi_if_ne (off := 28) (t := 54) (by decide +kernel : decode zY_49.2.1 26 = .ok (.ifCond .ne 28, 3)) (by decide) (by decide +kernel)
theorem zf_zm_49_14 (env : List (Nat × Nat)) : zI9 49 zY_49 zm_49 env (29, 99, 0, 0, 0) 54 := zi_none
theorem zf_zm_49_15 (env : List (Nat × Nat)) : zR9 49 env (54, 21, 0, 0, 0) := zi_vret (by decide +kernel : decode (zYf 49).2.1 54 = .ok (.return_, 1)) rfl
theorem zf_zm_49_16 (env : List (Nat × Nat)) : zI9 49 zY_49 zm_49 env (55, 99, 0, 0, 0) 0 := zi_none
set_option maxRecDepth 100000 in
theorem zc_zm_49 (env : List (Nat × Nat)) : zcode zX (z_QF zEX zcl zft) (z_zm zEX zX zWL zcl zft zYf) zYf zW zET zcl zft (zGv env) 49 zm_49 zm_49.1 := ⟨Or.inl ⟨1, zf_zm_49_0 env, zpc_c⟩,
  Or.inl ⟨2, zf_zm_49_1 env, zpc_c⟩,
  Or.inr (Or.inr (Or.inl ⟨zf_zm_49_2 env, zpc_c⟩)),
  Or.inl ⟨8, zf_zm_49_3 env, zpc_c⟩,
  Or.inl ⟨9, zf_zm_49_4 env, zpc_c⟩,
  Or.inl ⟨12, zf_zm_49_5 env, zpc_c⟩,
  Or.inl ⟨14, zf_zm_49_6 env, zpc_c⟩,
  Or.inl ⟨17, zf_zm_49_7 env, zpc_c⟩,
  Or.inl ⟨18, zf_zm_49_8 env, zpc_c⟩,
  Or.inl ⟨21, zf_zm_49_9 env, zpc_c⟩,
  Or.inl ⟨22, zf_zm_49_10 env, zpc_c⟩,
  Or.inl ⟨23, zf_zm_49_11 env, zpc_c⟩,
  Or.inr (Or.inr (Or.inl ⟨zf_zm_49_12 env, zpc_c⟩)),
  Or.inl ⟨29, zf_zm_49_13 env, zpc_c⟩,
  Or.inl ⟨54, zf_zm_49_14 env, zpc_c⟩,
  Or.inr (Or.inl (zf_zm_49_15 env)),
  Or.inl ⟨0, zf_zm_49_16 env, zpc_n⟩, trivial⟩
theorem zf_zm_50_0 (env : List (Nat × Nat)) : zI9 50 zY_50 zm_50 env (0, 63, 2, 0, 0) 1 := zi_iload_n (by decide +kernel : decode zY_50.2.1 0 = .ok (.iload_n 2, 1)) rfl
theorem zf_zm_50_1 (env : List (Nat × Nat)) : zI9 50 zY_50 zm_50 env (1, 2, 1, 0, 0) 2 := zi_iconst (by decide +kernel : decode zY_50.2.1 1 = .ok (.iconst 1, 1)) (by decide +kernel)
theorem zf_zm_50_2 (env : List (Nat × Nat)) : zI9 50 zY_50 zm_50 env (2, 20, 9, 0, 0) 5 := zi_icmp_eq (off := 14) (t := 16) (by decide +kernel : decode zY_50.2.1 2 = .ok (.if_icmp .eq 14, 3)) (by decide) (by decide +kernel)
theorem zf_zm_50_3 (env : List (Nat × Nat)) : zI9 50 zY_50 zm_50 env (5, 63, 2, 0, 0) 6 := zi_iload_n (by decide +kernel : decode zY_50.2.1 5 = .ok (.iload_n 2, 1)) rfl
theorem zf_zm_50_4 (env : List (Nat × Nat)) : zI9 50 zY_50 zm_50 env (6, 2, 3, 0, 0) 7 := zi_iconst (by decide +kernel : decode zY_50.2.1 6 = .ok (.iconst 3, 1)) (by decide +kernel)
theorem zf_zm_50_5 (env : List (Nat × Nat)) : zI9 50 zY_50 zm_50 env (7, 27, 11, 0, 0) 10 := zi_icmp_le (off := 13) (t := 20) (by decide +kernel : decode zY_50.2.1 7 = .ok (.if_icmp .le 13, 3)) (by decide) (by decide +kernel)
theorem zf_zm_50_6 (env : List (Nat × Nat)) : zI9 50 zY_50 zm_50 env (10, 63, 2, 0, 0) 11 := zi_iload_n (by decide +kernel : decode zY_50.2.1 10 = .ok (.iload_n 2, 1)) rfl
theorem zf_zm_50_7 (env : List (Nat × Nat)) : zI9 50 zY_50 zm_50 env (11, 2, 10, 0, 0) 13 := zi_bipush (by decide +kernel : decode zY_50.2.1 11 = .ok (.bipush 10, 2)) (by decide +kernel)
theorem zf_zm_50_8 (env : List (Nat × Nat)) : zI9 50 zY_50 zm_50 env (13, 28, 11, 0, 0) 16 := zi_icmp_ge (off := 7) (t := 20) (by decide +kernel : decode zY_50.2.1 13 = .ok (.if_icmp .ge 7, 3)) (by decide) (by decide +kernel)
theorem zf_zm_50_9 (env : List (Nat × Nat)) : zI9 50 zY_50 zm_50 env (16, 2, 1, 0, 0) 17 := zi_iconst (by decide +kernel : decode zY_50.2.1 16 = .ok (.iconst 1, 1)) (by decide +kernel)
theorem zf_zm_50_10 (env : List (Nat × Nat)) : zI9 50 zY_50 zm_50 env (17, 7, 12, 0, 0) 20 := zi_goto (off := 4) (t := 21) (by decide +kernel : decode zY_50.2.1 17 = .ok (.goto 4, 3)) (by decide) (by decide +kernel)
theorem zf_zm_50_11 (env : List (Nat × Nat)) : zI9 50 zY_50 zm_50 env (20, 2, 0, 0, 0) 21 := zi_iconst (by decide +kernel : decode zY_50.2.1 20 = .ok (.iconst 0, 1)) (by decide +kernel)
theorem zf_zm_50_12 (env : List (Nat × Nat)) : zI9 50 zY_50 zm_50 env (21, 10, 4, 0, 0) 23 := zi_istore (by decide +kernel : decode zY_50.2.1 21 = .ok (.istore 4, 2)) (by decide)
theorem zf_zm_50_13 (env : List (Nat × Nat)) : zI9 50 zY_50 zm_50 env (23, 0, 0, 0, 0) 24 := zi_aload_n (by decide +kernel : decode zY_50.2.1 23 = .ok (.aload_n 0, 1)) rfl
theorem zf_zm_50_14 (env : List (Nat × Nat)) : zI9 50 zY_50 zm_50 env (24, 63, 1, 0, 0) 25 := zi_iload_n (by decide +kernel : decode zY_50.2.1 24 = .ok (.iload_n 1, 1)) rfl
theorem zf_zm_50_15 (env : List (Nat × Nat)) : zC9 50 zm_50 env (25, 66, 45, 65, 0) := zi_call (by decide +kernel) (zr_S (i := 106) zX_ok rfl (zgood_45) (by decide +kernel) (zw_T zwd_250) (zw_T zwd_261) (zw_T zwd_262) ⟨by decide +kernel, by decide +kernel, by decide +kernel⟩ (by decide +kernel : decode (zYf 50).2.1 25 = .ok (.invokestatic 106, 3)))
theorem zf_zm_50_16 (env : List (Nat × Nat)) : zI9 50 zY_50 zm_50 env (28, 6, 34, 0, 0) 31 := zi_if_ne (off := 39) (t := 67) (by decide +kernel : decode zY_50.2.1 28 = .ok (.ifCond .ne 39, 3)) (by decide) (by decide +kernel)
theorem zf_zm_50_17 (env : List (Nat × Nat)) : zI9 50 zY_50 zm_50 env (31, 63, 4, 0, 0) 33 := zi_iload (by decide +kernel : decode zY_50.2.1 31 = .ok (.iload 4, 2))
theorem zf_zm_50_18 (env : List (Nat × Nat)) : zI9 50 zY_50 zm_50 env (33, 5, 34, 0, 0) 36 := zi_if_eq (off := 34) (t := 67) (by decide +kernel : decode zY_50.2.1 33 = .ok (.ifCond .eq 34, 3)) (by decide) (by decide +kernel)
theorem zf_zm_50_19 (env : List (Nat × Nat)) : zI9 50 zY_50 zm_50 env (36, 63, 3, 0, 0) 37 := zi_iload_n (by decide +kernel : decode zY_50.2.1 36 = .ok (.iload_n 3, 1)) rfl
theorem zf_zm_50_20 (env : List (Nat × Nat)) : zI9 50 zY_50 zm_50 env (37, 22, 34, 0, 0) 40 := zi_if_lt (off := 30) (t := 67) (by decide +kernel : decode zY_50.2.1 37 = .ok (.ifCond .lt 30, 3)) (by decide) (by decide +kernel)
theorem zf_zm_50_21 (env : List (Nat × Nat)) : zI9 50 zY_50 zm_50 env (40, 63, 3, 0, 0) 41 := zi_iload_n (by decide +kernel : decode zY_50.2.1 40 = .ok (.iload_n 3, 1)) rfl
theorem zf_zm_50_22 (env : List (Nat × Nat)) : zI9 50 zY_50 zm_50 env (41, 63, 2, 0, 0) 42 := zi_iload_n (by decide +kernel : decode zY_50.2.1 41 = .ok (.iload_n 2, 1)) rfl
theorem zf_zm_50_23 (env : List (Nat × Nat)) : zI9 50 zY_50 zm_50 env (42, 2, 1, 0, 0) 43 := zi_iconst (by decide +kernel : decode zY_50.2.1 42 = .ok (.iconst 1, 1)) (by decide +kernel)
theorem zf_zm_50_24 (env : List (Nat × Nat)) : zI9 50 zY_50 zm_50 env (43, 29, 27, 0, 0) 46 := zi_icmp_ne (off := 8) (t := 51) (by decide +kernel : decode zY_50.2.1 43 = .ok (.if_icmp .ne 8, 3)) (by decide) (by decide +kernel)
theorem zf_zm_50_25 (env : List (Nat × Nat)) : zI9 50 zY_50 zm_50 env (46, 2, 200000, 0, 0) 48 := zi_ldc (v := 200000) (by decide +kernel : decode zY_50.2.1 46 = .ok (.ldc 132, 2)) (by decide +kernel) (zw_T zwd_263)
theorem zf_zm_50_26 (env : List (Nat × Nat)) : zI9 50 zY_50 zm_50 env (48, 7, 33, 0, 0) 51 := zi_goto (off := 16) (t := 64) (by decide +kernel : decode zY_50.2.1 48 = .ok (.goto 16, 3)) (by decide) (by decide +kernel)
theorem zf_zm_50_27 (env : List (Nat × Nat)) : zI9 50 zY_50 zm_50 env (51, 63, 2, 0, 0) 52 := zi_iload_n (by decide +kernel : decode zY_50.2.1 51 = .ok (.iload_n 2, 1)) rfl
theorem zf_zm_50_28 (env : List (Nat × Nat)) : zI9 50 zY_50 zm_50 env (52, 2, 7, 0, 0) 54 := zi_bipush (by decide +kernel : decode zY_50.2.1 52 = .ok (.bipush 7, 2)) (by decide +kernel)
theorem zf_zm_50_29 (env : List (Nat × Nat)) : zI9 50 zY_50 zm_50 env (54, 27, 32, 0, 0) 57 := zi_icmp_le (off := 8) (t := 62) (by decide +kernel : decode zY_50.2.1 54 = .ok (.if_icmp .le 8, 3)) (by decide) (by decide +kernel)
theorem zf_zm_50_30 (env : List (Nat × Nat)) : zI9 50 zY_50 zm_50 env (57, 2, 64, 0, 0) 59 := zi_bipush (by decide +kernel : decode zY_50.2.1 57 = .ok (.bipush 64, 2)) (by decide +kernel)
theorem zf_zm_50_31 (env : List (Nat × Nat)) : zI9 50 zY_50 zm_50 env (59, 7, 33, 0, 0) 62 := zi_goto (off := 5) (t := 64) (by decide +kernel : decode zY_50.2.1 59 = .ok (.goto 5, 3)) (by decide) (by decide +kernel)
theorem zf_zm_50_32 (env : List (Nat × Nat)) : zI9 50 zY_50 zm_50 env (62, 2, 65536, 0, 0) 64 := zi_ldc (v := 65536) (by decide +kernel : decode zY_50.2.1 62 = .ok (.ldc 7, 2)) (by decide +kernel) (zw_T zwd_211)
theorem zf_zm_50_33 (env : List (Nat × Nat)) : zI9 50 zY_50 zm_50 env (64, 27, 36, 0, 0) 67 := zi_icmp_le (off := 7) (t := 71) (by decide +kernel : decode zY_50.2.1 64 = .ok (.if_icmp .le 7, 3)) (by decide) (by decide +kernel)
theorem zf_zm_50_34 (env : List (Nat × Nat)) : zI9 50 zY_50 zm_50 env (67, 2, 1, 0, 0) 68 := zi_iconst (by decide +kernel : decode zY_50.2.1 67 = .ok (.iconst 1, 1)) (by decide +kernel)
theorem zf_zm_50_35 (env : List (Nat × Nat)) : zI9 50 zY_50 zm_50 env (68, 7, 37, 0, 0) 71 := zi_goto (off := 4) (t := 72) (by decide +kernel : decode zY_50.2.1 68 = .ok (.goto 4, 3)) (by decide) (by decide +kernel)
theorem zf_zm_50_36 (env : List (Nat × Nat)) : zI9 50 zY_50 zm_50 env (71, 2, 0, 0, 0) 72 := zi_iconst (by decide +kernel : decode zY_50.2.1 71 = .ok (.iconst 0, 1)) (by decide +kernel)
theorem zf_zm_50_37 (env : List (Nat × Nat)) : zI9 50 zY_50 zm_50 env (72, 2, 1, 0, 0) 73 := zi_iconst (by decide +kernel : decode zY_50.2.1 72 = .ok (.iconst 1, 1)) (by decide +kernel)
theorem zf_zm_50_38 (env : List (Nat × Nat)) : zC9 50 zm_50 env (73, 66, 44, 195, 3) := zi_call (by decide +kernel) (zr_V (i := 102) (n := 2) (q := ("TransportPairModel", zF_1, 23)) zX_ok rfl (zgood_44) (by decide +kernel) (zw_T zwd_250) (zw_T zwd_259) (zw_T zwd_260) rfl (zw_T (zt_sel (y := ⟨"TransportPairModel","fails","(ZI)Z"⟩) (n := 23) 102 (by decide +kernel))) ⟨by decide +kernel, by decide +kernel, by decide +kernel⟩ rfl (by decide +kernel : decode (zYf 50).2.1 73 = .ok (.invokevirtual 102, 3)))
theorem zf_zm_50_39 (env : List (Nat × Nat)) : zI9 50 zY_50 zm_50 env (76, 6, 52, 0, 0) 79 := zi_if_ne (off := 28) (t := 104) (by decide +kernel : decode zY_50.2.1 76 = .ok (.ifCond .ne 28, 3)) (by decide) (by decide +kernel)
theorem zf_zm_50_40 (env : List (Nat × Nat)) : zI9 50 zY_50 zm_50 env (79, 0, 0, 0, 0) 80 := zi_aload_n (by decide +kernel : decode zY_50.2.1 79 = .ok (.aload_n 0, 1)) rfl
theorem zf_zm_50_41 (env : List (Nat × Nat)) : zI9 50 zY_50 zm_50 env (80, 0, 0, 0, 0) 81 := zi_aload_n (by decide +kernel : decode zY_50.2.1 80 = .ok (.aload_n 0, 1)) rfl
theorem zf_zm_50_42 (env : List (Nat × Nat)) : zI9 50 zY_50 zm_50 env (81, 1, 1, 7, 2) 84 := zi_getf (i := 37) (N := 23) (C := "TransportPairModel") (ref := "TransportPairModel") (T := zF_1) (by decide +kernel : decode zY_50.2.1 81 = .ok (.getfield 37, 3)) rfl zuw_1 (by decide) (zw_T zwd_231) rfl
theorem zf_zm_50_43 (env : List (Nat × Nat)) : zI9 50 zY_50 zm_50 env (84, 63, 1, 0, 0) 85 := zi_iload_n (by decide +kernel : decode zY_50.2.1 84 = .ok (.iload_n 1, 1)) rfl
theorem zf_zm_50_44 (env : List (Nat × Nat)) : zI9 50 zY_50 zm_50 env (85, 19, 0, 0, 0) 86 := zi_aald zft_all (by decide +kernel : decode zY_50.2.1 85 = .ok (.aaload, 1))
theorem zf_zm_50_45 (env : List (Nat × Nat)) : zI9 50 zY_50 zm_50 env (86, 1, 18, 8, 0) 89 := zi_getfN (i := 110) (N := 53) (C := "TransportPairModel$Side") (ref := "TransportPairModel$Side") (T := zF_18) (by decide +kernel : decode zY_50.2.1 86 = .ok (.getfield 110, 3)) rfl zuw_18 (by decide) (zw_N zwd_264) rfl
theorem zf_zm_50_46 (env : List (Nat × Nat)) : zI9 50 zY_50 zm_50 env (89, 5, 48, 0, 0) 92 := zi_if_eq (off := 7) (t := 96) (by decide +kernel : decode zY_50.2.1 89 = .ok (.ifCond .eq 7, 3)) (by decide) (by decide +kernel)
theorem zf_zm_50_47 (env : List (Nat × Nat)) : zI9 50 zY_50 zm_50 env (92, 99, 0, 0, 0) 96 := zi_none
theorem zf_zm_50_48 (env : List (Nat × Nat)) : zI9 50 zY_50 zm_50 env (96, 2, 0, 0, 0) 97 := zi_iconst (by decide +kernel : decode zY_50.2.1 96 = .ok (.iconst 0, 1)) (by decide +kernel)
theorem zf_zm_50_49 (env : List (Nat × Nat)) : zI9 50 zY_50 zm_50 env (97, 2, 2, 0, 0) 98 := zi_iconst (by decide +kernel : decode zY_50.2.1 97 = .ok (.iconst 2, 1)) (by decide +kernel)
theorem zf_zm_50_50 (env : List (Nat × Nat)) : zC9 50 zm_50 env (98, 66, 44, 195, 3) := zi_call (by decide +kernel) (zr_V (i := 102) (n := 2) (q := ("TransportPairModel", zF_1, 23)) zX_ok rfl (zgood_44) (by decide +kernel) (zw_T zwd_250) (zw_T zwd_259) (zw_T zwd_260) rfl (zw_T (zt_sel (y := ⟨"TransportPairModel","fails","(ZI)Z"⟩) (n := 23) 102 (by decide +kernel))) ⟨by decide +kernel, by decide +kernel, by decide +kernel⟩ rfl (by decide +kernel : decode (zYf 50).2.1 98 = .ok (.invokevirtual 102, 3)))
theorem zf_zm_50_51 (env : List (Nat × Nat)) : zI9 50 zY_50 zm_50 env (101, 5, 53, 0, 0) 104 := zi_if_eq (off := 4) (t := 105) (by decide +kernel : decode zY_50.2.1 101 = .ok (.ifCond .eq 4, 3)) (by decide) (by decide +kernel)
theorem zf_zm_50_52 (env : List (Nat × Nat)) : zR9 50 env (104, 21, 0, 0, 0) := zi_vret (by decide +kernel : decode (zYf 50).2.1 104 = .ok (.return_, 1)) rfl
theorem zf_zm_50_53 (env : List (Nat × Nat)) : zI9 50 zY_50 zm_50 env (105, 0, 0, 0, 0) 106 := zi_aload_n (by decide +kernel : decode zY_50.2.1 105 = .ok (.aload_n 0, 1)) rfl
theorem zf_zm_50_54 (env : List (Nat × Nat)) : zI9 50 zY_50 zm_50 env (106, 63, 1, 0, 0) 107 := zi_iload_n (by decide +kernel : decode zY_50.2.1 106 = .ok (.iload_n 1, 1)) rfl
theorem zf_zm_50_55 (env : List (Nat × Nat)) : zI9 50 zY_50 zm_50 env (107, 63, 2, 0, 0) 108 := zi_iload_n (by decide +kernel : decode zY_50.2.1 107 = .ok (.iload_n 2, 1)) rfl
theorem zf_zm_50_56 (env : List (Nat × Nat)) : zI9 50 zY_50 zm_50 env (108, 63, 3, 0, 0) 109 := zi_iload_n (by decide +kernel : decode zY_50.2.1 108 = .ok (.iload_n 3, 1)) rfl
theorem zf_zm_50_57 (env : List (Nat × Nat)) : zC9 50 zm_50 env (109, 66, 42, 260, 3) := zi_call (by decide +kernel) (zr_V (i := 83) (n := 3) (q := ("TransportPairModel", zF_1, 23)) zX_ok rfl (zgood_42) (by decide +kernel) (zw_T zwd_250) (zw_T zwd_251) (zw_T zwd_252) rfl (zw_T (zt_sel (y := ⟨"TransportPairModel","set","(III)V"⟩) (n := 23) 101 (by decide +kernel))) ⟨by decide +kernel, by decide +kernel, by decide +kernel⟩ rfl (by decide +kernel : decode (zYf 50).2.1 109 = .ok (.invokevirtual 83, 3)))
theorem zf_zm_50_58 (env : List (Nat × Nat)) : zR9 50 env (112, 21, 0, 0, 0) := zi_vret (by decide +kernel : decode (zYf 50).2.1 112 = .ok (.return_, 1)) rfl
set_option maxRecDepth 100000 in
theorem zc_zm_50 (env : List (Nat × Nat)) : zcode zX (z_QF zEX zcl zft) (z_zm zEX zX zWL zcl zft zYf) zYf zW zET zcl zft (zGv env) 50 zm_50 zm_50.1 := ⟨Or.inl ⟨1, zf_zm_50_0 env, zpc_c⟩,
  Or.inl ⟨2, zf_zm_50_1 env, zpc_c⟩,
  Or.inl ⟨5, zf_zm_50_2 env, zpc_c⟩,
  Or.inl ⟨6, zf_zm_50_3 env, zpc_c⟩,
  Or.inl ⟨7, zf_zm_50_4 env, zpc_c⟩,
  Or.inl ⟨10, zf_zm_50_5 env, zpc_c⟩,
  Or.inl ⟨11, zf_zm_50_6 env, zpc_c⟩,
  Or.inl ⟨13, zf_zm_50_7 env, zpc_c⟩,
  Or.inl ⟨16, zf_zm_50_8 env, zpc_c⟩,
  Or.inl ⟨17, zf_zm_50_9 env, zpc_c⟩,
  Or.inl ⟨20, zf_zm_50_10 env, zpc_c⟩,
  Or.inl ⟨21, zf_zm_50_11 env, zpc_c⟩,
  Or.inl ⟨23, zf_zm_50_12 env, zpc_c⟩,
  Or.inl ⟨24, zf_zm_50_13 env, zpc_c⟩,
  Or.inl ⟨25, zf_zm_50_14 env, zpc_c⟩,
  Or.inr (Or.inr (Or.inl ⟨zf_zm_50_15 env, zpc_c⟩)),
  Or.inl ⟨31, zf_zm_50_16 env, zpc_c⟩,
  Or.inl ⟨33, zf_zm_50_17 env, zpc_c⟩,
  Or.inl ⟨36, zf_zm_50_18 env, zpc_c⟩,
  Or.inl ⟨37, zf_zm_50_19 env, zpc_c⟩,
  Or.inl ⟨40, zf_zm_50_20 env, zpc_c⟩,
  Or.inl ⟨41, zf_zm_50_21 env, zpc_c⟩,
  Or.inl ⟨42, zf_zm_50_22 env, zpc_c⟩,
  Or.inl ⟨43, zf_zm_50_23 env, zpc_c⟩,
  Or.inl ⟨46, zf_zm_50_24 env, zpc_c⟩,
  Or.inl ⟨48, zf_zm_50_25 env, zpc_c⟩,
  Or.inl ⟨51, zf_zm_50_26 env, zpc_c⟩,
  Or.inl ⟨52, zf_zm_50_27 env, zpc_c⟩,
  Or.inl ⟨54, zf_zm_50_28 env, zpc_c⟩,
  Or.inl ⟨57, zf_zm_50_29 env, zpc_c⟩,
  Or.inl ⟨59, zf_zm_50_30 env, zpc_c⟩,
  Or.inl ⟨62, zf_zm_50_31 env, zpc_c⟩,
  Or.inl ⟨64, zf_zm_50_32 env, zpc_c⟩,
  Or.inl ⟨67, zf_zm_50_33 env, zpc_c⟩,
  Or.inl ⟨68, zf_zm_50_34 env, zpc_c⟩,
  Or.inl ⟨71, zf_zm_50_35 env, zpc_c⟩,
  Or.inl ⟨72, zf_zm_50_36 env, zpc_c⟩,
  Or.inl ⟨73, zf_zm_50_37 env, zpc_c⟩,
  Or.inr (Or.inr (Or.inl ⟨zf_zm_50_38 env, zpc_c⟩)),
  Or.inl ⟨79, zf_zm_50_39 env, zpc_c⟩,
  Or.inl ⟨80, zf_zm_50_40 env, zpc_c⟩,
  Or.inl ⟨81, zf_zm_50_41 env, zpc_c⟩,
  Or.inl ⟨84, zf_zm_50_42 env, zpc_c⟩,
  Or.inl ⟨85, zf_zm_50_43 env, zpc_c⟩,
  Or.inl ⟨86, zf_zm_50_44 env, zpc_c⟩,
  Or.inl ⟨89, zf_zm_50_45 env, zpc_c⟩,
  Or.inl ⟨92, zf_zm_50_46 env, zpc_c⟩,
  Or.inl ⟨96, zf_zm_50_47 env, zpc_c⟩,
  Or.inl ⟨97, zf_zm_50_48 env, zpc_c⟩,
  Or.inl ⟨98, zf_zm_50_49 env, zpc_c⟩,
  Or.inr (Or.inr (Or.inl ⟨zf_zm_50_50 env, zpc_c⟩)),
  Or.inl ⟨104, zf_zm_50_51 env, zpc_c⟩,
  Or.inr (Or.inl (zf_zm_50_52 env)),
  Or.inl ⟨106, zf_zm_50_53 env, zpc_c⟩,
  Or.inl ⟨107, zf_zm_50_54 env, zpc_c⟩,
  Or.inl ⟨108, zf_zm_50_55 env, zpc_c⟩,
  Or.inl ⟨109, zf_zm_50_56 env, zpc_c⟩,
  Or.inr (Or.inr (Or.inl ⟨zf_zm_50_57 env, zpc_c⟩)),
  Or.inr (Or.inl (zf_zm_50_58 env)), trivial⟩
