/-! FACTS (by program) -/
theorem zf_zm_126_0 (env : List (Nat × Nat)) : zI9 126 zY_126 zm_126 env (0, 2, 256, 0, 0) 3 := zi_sipush (by decide +kernel : decode zY_126.2.1 0 = .ok (.sipush 256, 3)) (by decide +kernel)
theorem zf_zm_126_1 (env : List (Nat × Nat)) : zI9 126 zY_126 zm_126 env (3, 63, 0, 0, 0) 4 := zi_iload_n (by decide +kernel : decode zY_126.2.1 3 = .ok (.iload_n 0, 1)) rfl
theorem zf_zm_126_2 (env : List (Nat × Nat)) : zI9 126 zY_126 zm_126 env (4, 36, 0, 0, 0) 5 := zi_imul (by decide +kernel : decode zY_126.2.1 4 = .ok (.imul, 1))
theorem zf_zm_126_3 (env : List (Nat × Nat)) : zI9 126 zY_126 zm_126 env (5, 63, 1, 0, 0) 6 := zi_iload_n (by decide +kernel : decode zY_126.2.1 5 = .ok (.iload_n 1, 1)) rfl
theorem zf_zm_126_4 (env : List (Nat × Nat)) : zI9 126 zY_126 zm_126 env (6, 9, 0, 0, 0) 7 := zi_iadd (by decide +kernel : decode zY_126.2.1 6 = .ok (.iadd, 1))
theorem zf_zm_126_5 (env : List (Nat × Nat)) : zR9 126 env (7, 11, 0, 0, 0) := zi_iret (by decide +kernel : decode (zYf 126).2.1 7 = .ok (.ireturn, 1)) rfl
set_option maxRecDepth 100000 in
theorem zc_zm_126 (env : List (Nat × Nat)) : zcode zX (z_QF zEX zcl zft) (z_zm zEX zX zWL zcl zft zYf) zYf zW zET zcl zft (zGv env) 126 zm_126 zm_126.1 := ⟨Or.inl ⟨3, zf_zm_126_0 env, zpc_c⟩,
  Or.inl ⟨4, zf_zm_126_1 env, zpc_c⟩,
  Or.inl ⟨5, zf_zm_126_2 env, zpc_c⟩,
  Or.inl ⟨6, zf_zm_126_3 env, zpc_c⟩,
  Or.inl ⟨7, zf_zm_126_4 env, zpc_c⟩,
  Or.inr (Or.inl (zf_zm_126_5 env)), trivial⟩
theorem zf_zm_127_0 (env : List (Nat × Nat)) : zI9 127 zY_127 zm_127 env (0, 63, 2, 0, 0) 1 := zi_iload_n (by decide +kernel : decode zY_127.2.1 0 = .ok (.iload_n 2, 1)) rfl
theorem zf_zm_127_1 (env : List (Nat × Nat)) : zI9 127 zY_127 zm_127 env (1, 22, 13, 0, 0) 4 := zi_if_lt (off := 27) (t := 28) (by decide +kernel : decode zY_127.2.1 1 = .ok (.ifCond .lt 27, 3)) (by decide) (by decide +kernel)
theorem zf_zm_127_2 (env : List (Nat × Nat)) : zI9 127 zY_127 zm_127 env (4, 63, 2, 0, 0) 5 := zi_iload_n (by decide +kernel : decode zY_127.2.1 4 = .ok (.iload_n 2, 1)) rfl
theorem zf_zm_127_3 (env : List (Nat × Nat)) : zI9 127 zY_127 zm_127 env (5, 2, 256, 0, 0) 8 := zi_sipush (by decide +kernel : decode zY_127.2.1 5 = .ok (.sipush 256, 3)) (by decide +kernel)
theorem zf_zm_127_4 (env : List (Nat × Nat)) : zI9 127 zY_127 zm_127 env (8, 28, 13, 0, 0) 11 := zi_icmp_ge (off := 20) (t := 28) (by decide +kernel : decode zY_127.2.1 8 = .ok (.if_icmp .ge 20, 3)) (by decide) (by decide +kernel)
theorem zf_zm_127_5 (env : List (Nat × Nat)) : zI9 127 zY_127 zm_127 env (11, 0, 0, 0, 0) 12 := zi_aload_n (by decide +kernel : decode zY_127.2.1 11 = .ok (.aload_n 0, 1)) rfl
theorem zf_zm_127_6 (env : List (Nat × Nat)) : zI9 127 zY_127 zm_127 env (12, 1, 19, 12, 2) 15 := zi_getf (i := 50) (N := 56) (C := "TransportPairModel$Streams") (ref := "TransportPairModel$Streams") (T := zF_19) (by decide +kernel : decode zY_127.2.1 12 = .ok (.getfield 50, 3)) rfl zuw_19 (by decide) (zw_T zwd_49) rfl
theorem zf_zm_127_7 (env : List (Nat × Nat)) : zI9 127 zY_127 zm_127 env (15, 63, 1, 0, 0) 16 := zi_iload_n (by decide +kernel : decode zY_127.2.1 15 = .ok (.iload_n 1, 1)) rfl
theorem zf_zm_127_8 (env : List (Nat × Nat)) : zI9 127 zY_127 zm_127 env (16, 63, 2, 0, 0) 17 := zi_iload_n (by decide +kernel : decode zY_127.2.1 16 = .ok (.iload_n 2, 1)) rfl
theorem zf_zm_127_9 (env : List (Nat × Nat)) : zC9 127 zm_127 env (17, 66, 126, 130, 0) := zi_call (by decide +kernel) (zr_S (i := 182) zX_ok rfl (zgood_126) (by decide +kernel) (zw_T zwd_221) (zw_T zwd_678) (zw_T zwd_679) ⟨by decide +kernel, by decide +kernel, by decide +kernel⟩ (by decide +kernel : decode (zYf 127).2.1 17 = .ok (.invokestatic 182, 3)))
theorem zf_zm_127_10 (env : List (Nat × Nat)) : zI9 127 zY_127 zm_127 env (20, 62, 0, 0, 0) 21 := zi_bald (by decide +kernel : decode zY_127.2.1 20 = .ok (.baload, 1))
theorem zf_zm_127_11 (env : List (Nat × Nat)) : zI9 127 zY_127 zm_127 env (21, 5, 13, 0, 0) 24 := zi_if_eq (off := 7) (t := 28) (by decide +kernel : decode zY_127.2.1 21 = .ok (.ifCond .eq 7, 3)) (by decide) (by decide +kernel)
theorem zf_zm_127_12 (env : List (Nat × Nat)) : zI9 127 zY_127 zm_127 env (24, 99, 0, 0, 0) 28 := zi_none
theorem zf_zm_127_13 (env : List (Nat × Nat)) : zI9 127 zY_127 zm_127 env (28, 2, 0, 0, 0) 29 := zi_iconst (by decide +kernel : decode zY_127.2.1 28 = .ok (.iconst 0, 1)) (by decide +kernel)
theorem zf_zm_127_14 (env : List (Nat × Nat)) : zR9 127 env (29, 11, 3, 0, 0) := zi_zret (by decide +kernel : decode (zYf 127).2.1 29 = .ok (.ireturn, 1)) rfl
set_option maxRecDepth 100000 in
theorem zc_zm_127 (env : List (Nat × Nat)) : zcode zX (z_QF zEX zcl zft) (z_zm zEX zX zWL zcl zft zYf) zYf zW zET zcl zft (zGv env) 127 zm_127 zm_127.1 := ⟨Or.inl ⟨1, zf_zm_127_0 env, zpc_c⟩,
  Or.inl ⟨4, zf_zm_127_1 env, zpc_c⟩,
  Or.inl ⟨5, zf_zm_127_2 env, zpc_c⟩,
  Or.inl ⟨8, zf_zm_127_3 env, zpc_c⟩,
  Or.inl ⟨11, zf_zm_127_4 env, zpc_c⟩,
  Or.inl ⟨12, zf_zm_127_5 env, zpc_c⟩,
  Or.inl ⟨15, zf_zm_127_6 env, zpc_c⟩,
  Or.inl ⟨16, zf_zm_127_7 env, zpc_c⟩,
  Or.inl ⟨17, zf_zm_127_8 env, zpc_c⟩,
  Or.inr (Or.inr (Or.inl ⟨zf_zm_127_9 env, zpc_c⟩)),
  Or.inl ⟨21, zf_zm_127_10 env, zpc_c⟩,
  Or.inl ⟨24, zf_zm_127_11 env, zpc_c⟩,
  Or.inl ⟨28, zf_zm_127_12 env, zpc_c⟩,
  Or.inl ⟨29, zf_zm_127_13 env, zpc_c⟩,
  Or.inr (Or.inl (zf_zm_127_14 env)), trivial⟩
theorem zf_zm_128_0 (env : List (Nat × Nat)) : zI9 128 zY_128 zm_128 env (0, 0, 0, 0, 0) 1 := zi_aload_n (by decide +kernel : decode zY_128.2.1 0 = .ok (.aload_n 0, 1)) rfl
theorem zf_zm_128_1 (env : List (Nat × Nat)) : zI9 128 zY_128 zm_128 env (1, 63, 1, 0, 0) 2 := zi_iload_n (by decide +kernel : decode zY_128.2.1 1 = .ok (.iload_n 1, 1)) rfl
theorem zf_zm_128_2 (env : List (Nat × Nat)) : zI9 128 zY_128 zm_128 env (2, 63, 2, 0, 0) 3 := zi_iload_n (by decide +kernel : decode zY_128.2.1 2 = .ok (.iload_n 2, 1)) rfl
theorem zf_zm_128_3 (env : List (Nat × Nat)) : zC9 128 zm_128 env (3, 66, 127, 195, 21) := zi_call (by decide +kernel) (zr_V (i := 186) (n := 2) (q := ("TransportPairModel$Streams", zF_19, 56)) zX_ok rfl (zgood_127) (by decide +kernel) (zw_T zwd_221) (zw_T zwd_680) (zw_T zwd_681) rfl (zw_T (zt_sel (y := ⟨"TransportPairModel$Streams","isThere","(II)Z"⟩) (n := 56) 118 (by decide +kernel))) ⟨by decide +kernel, by decide +kernel, by decide +kernel⟩ rfl (by decide +kernel : decode (zYf 128).2.1 3 = .ok (.invokevirtual 186, 3)))
theorem zf_zm_128_4 (env : List (Nat × Nat)) : zI9 128 zY_128 zm_128 env (6, 5, 6, 0, 0) 9 := zi_if_eq (off := 16) (t := 22) (by decide +kernel : decode zY_128.2.1 6 = .ok (.ifCond .eq 16, 3)) (by decide) (by decide +kernel)
theorem zf_zm_128_5 (env : List (Nat × Nat)) : zI9 128 zY_128 zm_128 env (9, 99, 0, 0, 0) 22 := zi_none
theorem zf_zm_128_6 (env : List (Nat × Nat)) : zI9 128 zY_128 zm_128 env (22, 2, 0, 0, 0) 23 := zi_iconst (by decide +kernel : decode zY_128.2.1 22 = .ok (.iconst 0, 1)) (by decide +kernel)
theorem zf_zm_128_7 (env : List (Nat × Nat)) : zR9 128 env (23, 11, 3, 0, 0) := zi_zret (by decide +kernel : decode (zYf 128).2.1 23 = .ok (.ireturn, 1)) rfl
set_option maxRecDepth 100000 in
theorem zc_zm_128 (env : List (Nat × Nat)) : zcode zX (z_QF zEX zcl zft) (z_zm zEX zX zWL zcl zft zYf) zYf zW zET zcl zft (zGv env) 128 zm_128 zm_128.1 := ⟨Or.inl ⟨1, zf_zm_128_0 env, zpc_c⟩,
  Or.inl ⟨2, zf_zm_128_1 env, zpc_c⟩,
  Or.inl ⟨3, zf_zm_128_2 env, zpc_c⟩,
  Or.inr (Or.inr (Or.inl ⟨zf_zm_128_3 env, zpc_c⟩)),
  Or.inl ⟨9, zf_zm_128_4 env, zpc_c⟩,
  Or.inl ⟨22, zf_zm_128_5 env, zpc_c⟩,
  Or.inl ⟨23, zf_zm_128_6 env, zpc_c⟩,
  Or.inr (Or.inl (zf_zm_128_7 env)), trivial⟩
theorem zf_zm_129_0 (env : List (Nat × Nat)) : zI9 129 zY_129 zm_129 env (0, 0, 0, 0, 0) 1 := zi_aload_n (by decide +kernel : decode zY_129.2.1 0 = .ok (.aload_n 0, 1)) rfl
theorem zf_zm_129_1 (env : List (Nat × Nat)) : zI9 129 zY_129 zm_129 env (1, 63, 1, 0, 0) 2 := zi_iload_n (by decide +kernel : decode zY_129.2.1 1 = .ok (.iload_n 1, 1)) rfl
theorem zf_zm_129_2 (env : List (Nat × Nat)) : zI9 129 zY_129 zm_129 env (2, 63, 2, 0, 0) 3 := zi_iload_n (by decide +kernel : decode zY_129.2.1 2 = .ok (.iload_n 2, 1)) rfl
theorem zf_zm_129_3 (env : List (Nat × Nat)) : zC9 129 zm_129 env (3, 66, 127, 195, 21) := zi_call (by decide +kernel) (zr_V (i := 186) (n := 2) (q := ("TransportPairModel$Streams", zF_19, 56)) zX_ok rfl (zgood_127) (by decide +kernel) (zw_T zwd_221) (zw_T zwd_680) (zw_T zwd_681) rfl (zw_T (zt_sel (y := ⟨"TransportPairModel$Streams","isThere","(II)Z"⟩) (n := 56) 118 (by decide +kernel))) ⟨by decide +kernel, by decide +kernel, by decide +kernel⟩ rfl (by decide +kernel : decode (zYf 129).2.1 3 = .ok (.invokevirtual 186, 3)))
theorem zf_zm_129_4 (env : List (Nat × Nat)) : zI9 129 zY_129 zm_129 env (6, 5, 6, 0, 0) 9 := zi_if_eq (off := 16) (t := 22) (by decide +kernel : decode zY_129.2.1 6 = .ok (.ifCond .eq 16, 3)) (by decide) (by decide +kernel)
theorem zf_zm_129_5 (env : List (Nat × Nat)) : zI9 129 zY_129 zm_129 env (9, 99, 0, 0, 0) 22 := zi_none
theorem zf_zm_129_6 (env : List (Nat × Nat)) : zI9 129 zY_129 zm_129 env (22, 2, 0, 0, 0) 23 := zi_iconst (by decide +kernel : decode zY_129.2.1 22 = .ok (.iconst 0, 1)) (by decide +kernel)
theorem zf_zm_129_7 (env : List (Nat × Nat)) : zR9 129 env (23, 11, 3, 0, 0) := zi_zret (by decide +kernel : decode (zYf 129).2.1 23 = .ok (.ireturn, 1)) rfl
set_option maxRecDepth 100000 in
theorem zc_zm_129 (env : List (Nat × Nat)) : zcode zX (z_QF zEX zcl zft) (z_zm zEX zX zWL zcl zft zYf) zYf zW zET zcl zft (zGv env) 129 zm_129 zm_129.1 := ⟨Or.inl ⟨1, zf_zm_129_0 env, zpc_c⟩,
  Or.inl ⟨2, zf_zm_129_1 env, zpc_c⟩,
  Or.inl ⟨3, zf_zm_129_2 env, zpc_c⟩,
  Or.inr (Or.inr (Or.inl ⟨zf_zm_129_3 env, zpc_c⟩)),
  Or.inl ⟨9, zf_zm_129_4 env, zpc_c⟩,
  Or.inl ⟨22, zf_zm_129_5 env, zpc_c⟩,
  Or.inl ⟨23, zf_zm_129_6 env, zpc_c⟩,
  Or.inr (Or.inl (zf_zm_129_7 env)), trivial⟩
theorem zf_zm_130_0 (env : List (Nat × Nat)) : zI9 130 zY_130 zm_130 env (0, 0, 0, 0, 0) 1 := zi_aload_n (by decide +kernel : decode zY_130.2.1 0 = .ok (.aload_n 0, 1)) rfl
theorem zf_zm_130_1 (env : List (Nat × Nat)) : zI9 130 zY_130 zm_130 env (1, 63, 1, 0, 0) 2 := zi_iload_n (by decide +kernel : decode zY_130.2.1 1 = .ok (.iload_n 1, 1)) rfl
theorem zf_zm_130_2 (env : List (Nat × Nat)) : zI9 130 zY_130 zm_130 env (2, 63, 2, 0, 0) 3 := zi_iload_n (by decide +kernel : decode zY_130.2.1 2 = .ok (.iload_n 2, 1)) rfl
theorem zf_zm_130_3 (env : List (Nat × Nat)) : zC9 130 zm_130 env (3, 66, 128, 195, 21) := zi_call (by decide +kernel) (zr_V (i := 200) (n := 2) (q := ("TransportPairModel$Streams", zF_19, 56)) zX_ok rfl (zgood_128) (by decide +kernel) (zw_T zwd_221) (zw_T zwd_682) (zw_T zwd_683) rfl (zw_T zwd_684) ⟨by decide +kernel, by decide +kernel, by decide +kernel⟩ rfl (by decide +kernel : decode (zYf 130).2.1 3 = .ok (.invokevirtual 200, 3)))
theorem zf_zm_130_4 (env : List (Nat × Nat)) : zI9 130 zY_130 zm_130 env (6, 5, 6, 0, 0) 9 := zi_if_eq (off := 20) (t := 26) (by decide +kernel : decode zY_130.2.1 6 = .ok (.ifCond .eq 20, 3)) (by decide) (by decide +kernel)
theorem zf_zm_130_5 (env : List (Nat × Nat)) : zI9 130 zY_130 zm_130 env (9, 99, 0, 0, 0) 26 := zi_none
theorem zf_zm_130_6 (env : List (Nat × Nat)) : zI9 130 zY_130 zm_130 env (26, 2, 0, 0, 0) 27 := zi_iconst (by decide +kernel : decode zY_130.2.1 26 = .ok (.iconst 0, 1)) (by decide +kernel)
theorem zf_zm_130_7 (env : List (Nat × Nat)) : zR9 130 env (27, 11, 3, 0, 0) := zi_zret (by decide +kernel : decode (zYf 130).2.1 27 = .ok (.ireturn, 1)) rfl
set_option maxRecDepth 100000 in
theorem zc_zm_130 (env : List (Nat × Nat)) : zcode zX (z_QF zEX zcl zft) (z_zm zEX zX zWL zcl zft zYf) zYf zW zET zcl zft (zGv env) 130 zm_130 zm_130.1 := ⟨Or.inl ⟨1, zf_zm_130_0 env, zpc_c⟩,
  Or.inl ⟨2, zf_zm_130_1 env, zpc_c⟩,
  Or.inl ⟨3, zf_zm_130_2 env, zpc_c⟩,
  Or.inr (Or.inr (Or.inl ⟨zf_zm_130_3 env, zpc_c⟩)),
  Or.inl ⟨9, zf_zm_130_4 env, zpc_c⟩,
  Or.inl ⟨26, zf_zm_130_5 env, zpc_c⟩,
  Or.inl ⟨27, zf_zm_130_6 env, zpc_c⟩,
  Or.inr (Or.inl (zf_zm_130_7 env)), trivial⟩
theorem zf_zm_131_0 (env : List (Nat × Nat)) : zI9 131 zY_131 zm_131 env (0, 15, 0, 0, 0) 1 := zi_lconst (by decide +kernel : decode zY_131.2.1 0 = .ok (.lconst 0, 1)) (by decide +kernel)
theorem zf_zm_131_1 (env : List (Nat × Nat)) : zI9 131 zY_131 zm_131 env (1, 41, 2, 0, 0) 2 := zi_lstore_n (by decide +kernel : decode zY_131.2.1 1 = .ok (.lstore_n 2, 1)) rfl (by decide)
theorem zf_zm_131_2 (env : List (Nat × Nat)) : zI9 131 zY_131 zm_131 env (2, 2, 0, 0, 0) 3 := zi_iconst (by decide +kernel : decode zY_131.2.1 2 = .ok (.iconst 0, 1)) (by decide +kernel)
theorem zf_zm_131_3 (env : List (Nat × Nat)) : zI9 131 zY_131 zm_131 env (3, 10, 4, 0, 0) 5 := zi_istore (by decide +kernel : decode zY_131.2.1 3 = .ok (.istore 4, 2)) (by decide)
theorem zf_zm_131_4 (env : List (Nat × Nat)) : zI9 131 zY_131 zm_131 env (5, 63, 4, 0, 0) 7 := zi_iload (by decide +kernel : decode zY_131.2.1 5 = .ok (.iload 4, 2))
theorem zf_zm_131_5 (env : List (Nat × Nat)) : zI9 131 zY_131 zm_131 env (7, 2, 256, 0, 0) 10 := zi_sipush (by decide +kernel : decode zY_131.2.1 7 = .ok (.sipush 256, 3)) (by decide +kernel)
theorem zf_zm_131_6 (env : List (Nat × Nat)) : zI9 131 zY_131 zm_131 env (10, 28, 18, 0, 0) 13 := zi_icmp_ge (off := 23) (t := 33) (by decide +kernel : decode zY_131.2.1 10 = .ok (.if_icmp .ge 23, 3)) (by decide) (by decide +kernel)
theorem zf_zm_131_7 (env : List (Nat × Nat)) : zI9 131 zY_131 zm_131 env (13, 64, 2, 0, 0) 14 := zi_lload_n (by decide +kernel : decode zY_131.2.1 13 = .ok (.lload_n 2, 1)) rfl
theorem zf_zm_131_8 (env : List (Nat × Nat)) : zI9 131 zY_131 zm_131 env (14, 0, 0, 0, 0) 15 := zi_aload_n (by decide +kernel : decode zY_131.2.1 14 = .ok (.aload_n 0, 1)) rfl
theorem zf_zm_131_9 (env : List (Nat × Nat)) : zI9 131 zY_131 zm_131 env (15, 1, 19, 27, 2) 18 := zi_getf (i := 95) (N := 56) (C := "TransportPairModel$Streams") (ref := "TransportPairModel$Streams") (T := zF_19) (by decide +kernel : decode zY_131.2.1 15 = .ok (.getfield 95, 3)) rfl zuw_19 (by decide) (zw_T zwd_64) rfl
theorem zf_zm_131_10 (env : List (Nat × Nat)) : zI9 131 zY_131 zm_131 env (18, 63, 1, 0, 0) 19 := zi_iload_n (by decide +kernel : decode zY_131.2.1 18 = .ok (.iload_n 1, 1)) rfl
theorem zf_zm_131_11 (env : List (Nat × Nat)) : zI9 131 zY_131 zm_131 env (19, 63, 4, 0, 0) 21 := zi_iload (by decide +kernel : decode zY_131.2.1 19 = .ok (.iload 4, 2))
theorem zf_zm_131_12 (env : List (Nat × Nat)) : zC9 131 zm_131 env (21, 66, 126, 130, 0) := zi_call (by decide +kernel) (zr_S (i := 182) zX_ok rfl (zgood_126) (by decide +kernel) (zw_T zwd_221) (zw_T zwd_678) (zw_T zwd_679) ⟨by decide +kernel, by decide +kernel, by decide +kernel⟩ (by decide +kernel : decode (zYf 131).2.1 21 = .ok (.invokestatic 182, 3)))
theorem zf_zm_131_13 (env : List (Nat × Nat)) : zI9 131 zY_131 zm_131 env (24, 26, 0, 0, 0) 25 := zi_lald (by decide +kernel : decode zY_131.2.1 24 = .ok (.laload, 1))
theorem zf_zm_131_14 (env : List (Nat × Nat)) : zI9 131 zY_131 zm_131 env (25, 50, 0, 0, 0) 26 := zi_ladd (by decide +kernel : decode zY_131.2.1 25 = .ok (.ladd, 1))
theorem zf_zm_131_15 (env : List (Nat × Nat)) : zI9 131 zY_131 zm_131 env (26, 41, 2, 0, 0) 27 := zi_lstore_n (by decide +kernel : decode zY_131.2.1 26 = .ok (.lstore_n 2, 1)) rfl (by decide)
theorem zf_zm_131_16 (env : List (Nat × Nat)) : zI9 131 zY_131 zm_131 env (27, 35, 4, 1, 0) 30 := zi_iinc (by decide +kernel : decode zY_131.2.1 27 = .ok (.iinc 4 1, 3)) (by decide +kernel) (by decide)
theorem zf_zm_131_17 (env : List (Nat × Nat)) : zI9 131 zY_131 zm_131 env (30, 7, 4, 0, 0) 33 := zi_goto (off := (-25)) (t := 5) (by decide +kernel : decode zY_131.2.1 30 = .ok (.goto (-25), 3)) (by decide) (by decide +kernel)
theorem zf_zm_131_18 (env : List (Nat × Nat)) : zI9 131 zY_131 zm_131 env (33, 64, 2, 0, 0) 34 := zi_lload_n (by decide +kernel : decode zY_131.2.1 33 = .ok (.lload_n 2, 1)) rfl
theorem zf_zm_131_19 (env : List (Nat × Nat)) : zR9 131 env (34, 11, 1, 0, 0) := zi_lret (by decide +kernel : decode (zYf 131).2.1 34 = .ok (.lreturn, 1)) rfl
set_option maxRecDepth 100000 in
theorem zc_zm_131 (env : List (Nat × Nat)) : zcode zX (z_QF zEX zcl zft) (z_zm zEX zX zWL zcl zft zYf) zYf zW zET zcl zft (zGv env) 131 zm_131 zm_131.1 := ⟨Or.inl ⟨1, zf_zm_131_0 env, zpc_c⟩,
  Or.inl ⟨2, zf_zm_131_1 env, zpc_c⟩,
  Or.inl ⟨3, zf_zm_131_2 env, zpc_c⟩,
  Or.inl ⟨5, zf_zm_131_3 env, zpc_c⟩,
  Or.inl ⟨7, zf_zm_131_4 env, zpc_c⟩,
  Or.inl ⟨10, zf_zm_131_5 env, zpc_c⟩,
  Or.inl ⟨13, zf_zm_131_6 env, zpc_c⟩,
  Or.inl ⟨14, zf_zm_131_7 env, zpc_c⟩,
  Or.inl ⟨15, zf_zm_131_8 env, zpc_c⟩,
  Or.inl ⟨18, zf_zm_131_9 env, zpc_c⟩,
  Or.inl ⟨19, zf_zm_131_10 env, zpc_c⟩,
  Or.inl ⟨21, zf_zm_131_11 env, zpc_c⟩,
  Or.inr (Or.inr (Or.inl ⟨zf_zm_131_12 env, zpc_c⟩)),
  Or.inl ⟨25, zf_zm_131_13 env, zpc_c⟩,
  Or.inl ⟨26, zf_zm_131_14 env, zpc_c⟩,
  Or.inl ⟨27, zf_zm_131_15 env, zpc_c⟩,
  Or.inl ⟨30, zf_zm_131_16 env, zpc_c⟩,
  Or.inl ⟨33, zf_zm_131_17 env, zpc_c⟩,
  Or.inl ⟨34, zf_zm_131_18 env, zpc_c⟩,
  Or.inr (Or.inl (zf_zm_131_19 env)), trivial⟩
theorem zf_zm_132_0 (env : List (Nat × Nat)) : zI9 132 zY_132 zm_132 env (0, 15, 0, 0, 0) 1 := zi_lconst (by decide +kernel : decode zY_132.2.1 0 = .ok (.lconst 0, 1)) (by decide +kernel)
theorem zf_zm_132_1 (env : List (Nat × Nat)) : zI9 132 zY_132 zm_132 env (1, 41, 2, 0, 0) 2 := zi_lstore_n (by decide +kernel : decode zY_132.2.1 1 = .ok (.lstore_n 2, 1)) rfl (by decide)
theorem zf_zm_132_2 (env : List (Nat × Nat)) : zI9 132 zY_132 zm_132 env (2, 2, 0, 0, 0) 3 := zi_iconst (by decide +kernel : decode zY_132.2.1 2 = .ok (.iconst 0, 1)) (by decide +kernel)
theorem zf_zm_132_3 (env : List (Nat × Nat)) : zI9 132 zY_132 zm_132 env (3, 10, 4, 0, 0) 5 := zi_istore (by decide +kernel : decode zY_132.2.1 3 = .ok (.istore 4, 2)) (by decide)
theorem zf_zm_132_4 (env : List (Nat × Nat)) : zI9 132 zY_132 zm_132 env (5, 63, 4, 0, 0) 7 := zi_iload (by decide +kernel : decode zY_132.2.1 5 = .ok (.iload 4, 2))
theorem zf_zm_132_5 (env : List (Nat × Nat)) : zI9 132 zY_132 zm_132 env (7, 2, 256, 0, 0) 10 := zi_sipush (by decide +kernel : decode zY_132.2.1 7 = .ok (.sipush 256, 3)) (by decide +kernel)
theorem zf_zm_132_6 (env : List (Nat × Nat)) : zI9 132 zY_132 zm_132 env (10, 28, 27, 0, 0) 13 := zi_icmp_ge (off := 52) (t := 62) (by decide +kernel : decode zY_132.2.1 10 = .ok (.if_icmp .ge 52, 3)) (by decide) (by decide +kernel)
theorem zf_zm_132_7 (env : List (Nat × Nat)) : zI9 132 zY_132 zm_132 env (13, 64, 2, 0, 0) 14 := zi_lload_n (by decide +kernel : decode zY_132.2.1 13 = .ok (.lload_n 2, 1)) rfl
theorem zf_zm_132_8 (env : List (Nat × Nat)) : zI9 132 zY_132 zm_132 env (14, 0, 0, 0, 0) 15 := zi_aload_n (by decide +kernel : decode zY_132.2.1 14 = .ok (.aload_n 0, 1)) rfl
theorem zf_zm_132_9 (env : List (Nat × Nat)) : zI9 132 zY_132 zm_132 env (15, 1, 19, 31, 2) 18 := zi_getf (i := 107) (N := 56) (C := "TransportPairModel$Streams") (ref := "TransportPairModel$Streams") (T := zF_19) (by decide +kernel : decode zY_132.2.1 15 = .ok (.getfield 107, 3)) rfl zuw_19 (by decide) (zw_T zwd_68) rfl
theorem zf_zm_132_10 (env : List (Nat × Nat)) : zI9 132 zY_132 zm_132 env (18, 63, 1, 0, 0) 19 := zi_iload_n (by decide +kernel : decode zY_132.2.1 18 = .ok (.iload_n 1, 1)) rfl
theorem zf_zm_132_11 (env : List (Nat × Nat)) : zI9 132 zY_132 zm_132 env (19, 63, 4, 0, 0) 21 := zi_iload (by decide +kernel : decode zY_132.2.1 19 = .ok (.iload 4, 2))
theorem zf_zm_132_12 (env : List (Nat × Nat)) : zC9 132 zm_132 env (21, 66, 126, 130, 0) := zi_call (by decide +kernel) (zr_S (i := 182) zX_ok rfl (zgood_126) (by decide +kernel) (zw_T zwd_221) (zw_T zwd_678) (zw_T zwd_679) ⟨by decide +kernel, by decide +kernel, by decide +kernel⟩ (by decide +kernel : decode (zYf 132).2.1 21 = .ok (.invokestatic 182, 3)))
theorem zf_zm_132_13 (env : List (Nat × Nat)) : zI9 132 zY_132 zm_132 env (24, 62, 0, 0, 0) 25 := zi_bald (by decide +kernel : decode zY_132.2.1 24 = .ok (.baload, 1))
theorem zf_zm_132_14 (env : List (Nat × Nat)) : zI9 132 zY_132 zm_132 env (25, 5, 16, 0, 0) 28 := zi_if_eq (off := 17) (t := 42) (by decide +kernel : decode zY_132.2.1 25 = .ok (.ifCond .eq 17, 3)) (by decide) (by decide +kernel)
theorem zf_zm_132_15 (env : List (Nat × Nat)) : zI9 132 zY_132 zm_132 env (28, 99, 0, 0, 0) 42 := zi_none
theorem zf_zm_132_16 (env : List (Nat × Nat)) : zI9 132 zY_132 zm_132 env (42, 0, 0, 0, 0) 43 := zi_aload_n (by decide +kernel : decode zY_132.2.1 42 = .ok (.aload_n 0, 1)) rfl
theorem zf_zm_132_17 (env : List (Nat × Nat)) : zI9 132 zY_132 zm_132 env (43, 1, 19, 29, 2) 46 := zi_getf (i := 101) (N := 56) (C := "TransportPairModel$Streams") (ref := "TransportPairModel$Streams") (T := zF_19) (by decide +kernel : decode zY_132.2.1 43 = .ok (.getfield 101, 3)) rfl zuw_19 (by decide) (zw_T zwd_66) rfl
theorem zf_zm_132_18 (env : List (Nat × Nat)) : zI9 132 zY_132 zm_132 env (46, 63, 1, 0, 0) 47 := zi_iload_n (by decide +kernel : decode zY_132.2.1 46 = .ok (.iload_n 1, 1)) rfl
theorem zf_zm_132_19 (env : List (Nat × Nat)) : zI9 132 zY_132 zm_132 env (47, 63, 4, 0, 0) 49 := zi_iload (by decide +kernel : decode zY_132.2.1 47 = .ok (.iload 4, 2))
theorem zf_zm_132_20 (env : List (Nat × Nat)) : zC9 132 zm_132 env (49, 66, 126, 130, 0) := zi_call (by decide +kernel) (zr_S (i := 182) zX_ok rfl (zgood_126) (by decide +kernel) (zw_T zwd_221) (zw_T zwd_678) (zw_T zwd_679) ⟨by decide +kernel, by decide +kernel, by decide +kernel⟩ (by decide +kernel : decode (zYf 132).2.1 49 = .ok (.invokestatic 182, 3)))
theorem zf_zm_132_21 (env : List (Nat × Nat)) : zI9 132 zY_132 zm_132 env (52, 8, 0, 0, 0) 53 := zi_iald (zscr_ok (by decide +kernel : decode zY_132.2.1 52 = .ok (.iaload, 1))) (by decide +kernel : decode zY_132.2.1 52 = .ok (.iaload, 1))
theorem zf_zm_132_22 (env : List (Nat × Nat)) : zI9 132 zY_132 zm_132 env (53, 16, 0, 0, 0) 54 := zi_i2l (by decide +kernel : decode zY_132.2.1 53 = .ok (.i2l, 1))
theorem zf_zm_132_23 (env : List (Nat × Nat)) : zI9 132 zY_132 zm_132 env (54, 50, 0, 0, 0) 55 := zi_ladd (by decide +kernel : decode zY_132.2.1 54 = .ok (.ladd, 1))
theorem zf_zm_132_24 (env : List (Nat × Nat)) : zI9 132 zY_132 zm_132 env (55, 41, 2, 0, 0) 56 := zi_lstore_n (by decide +kernel : decode zY_132.2.1 55 = .ok (.lstore_n 2, 1)) rfl (by decide)
theorem zf_zm_132_25 (env : List (Nat × Nat)) : zI9 132 zY_132 zm_132 env (56, 35, 4, 1, 0) 59 := zi_iinc (by decide +kernel : decode zY_132.2.1 56 = .ok (.iinc 4 1, 3)) (by decide +kernel) (by decide)
theorem zf_zm_132_26 (env : List (Nat × Nat)) : zI9 132 zY_132 zm_132 env (59, 7, 4, 0, 0) 62 := zi_goto (off := (-54)) (t := 5) (by decide +kernel : decode zY_132.2.1 59 = .ok (.goto (-54), 3)) (by decide) (by decide +kernel)
theorem zf_zm_132_27 (env : List (Nat × Nat)) : zI9 132 zY_132 zm_132 env (62, 64, 2, 0, 0) 63 := zi_lload_n (by decide +kernel : decode zY_132.2.1 62 = .ok (.lload_n 2, 1)) rfl
theorem zf_zm_132_28 (env : List (Nat × Nat)) : zR9 132 env (63, 11, 1, 0, 0) := zi_lret (by decide +kernel : decode (zYf 132).2.1 63 = .ok (.lreturn, 1)) rfl
set_option maxRecDepth 100000 in
theorem zc_zm_132 (env : List (Nat × Nat)) : zcode zX (z_QF zEX zcl zft) (z_zm zEX zX zWL zcl zft zYf) zYf zW zET zcl zft (zGv env) 132 zm_132 zm_132.1 := ⟨Or.inl ⟨1, zf_zm_132_0 env, zpc_c⟩,
  Or.inl ⟨2, zf_zm_132_1 env, zpc_c⟩,
  Or.inl ⟨3, zf_zm_132_2 env, zpc_c⟩,
  Or.inl ⟨5, zf_zm_132_3 env, zpc_c⟩,
  Or.inl ⟨7, zf_zm_132_4 env, zpc_c⟩,
  Or.inl ⟨10, zf_zm_132_5 env, zpc_c⟩,
  Or.inl ⟨13, zf_zm_132_6 env, zpc_c⟩,
  Or.inl ⟨14, zf_zm_132_7 env, zpc_c⟩,
  Or.inl ⟨15, zf_zm_132_8 env, zpc_c⟩,
  Or.inl ⟨18, zf_zm_132_9 env, zpc_c⟩,
  Or.inl ⟨19, zf_zm_132_10 env, zpc_c⟩,
  Or.inl ⟨21, zf_zm_132_11 env, zpc_c⟩,
  Or.inr (Or.inr (Or.inl ⟨zf_zm_132_12 env, zpc_c⟩)),
  Or.inl ⟨25, zf_zm_132_13 env, zpc_c⟩,
  Or.inl ⟨28, zf_zm_132_14 env, zpc_c⟩,
  Or.inl ⟨42, zf_zm_132_15 env, zpc_c⟩,
  Or.inl ⟨43, zf_zm_132_16 env, zpc_c⟩,
  Or.inl ⟨46, zf_zm_132_17 env, zpc_c⟩,
  Or.inl ⟨47, zf_zm_132_18 env, zpc_c⟩,
  Or.inl ⟨49, zf_zm_132_19 env, zpc_c⟩,
  Or.inr (Or.inr (Or.inl ⟨zf_zm_132_20 env, zpc_c⟩)),
  Or.inl ⟨53, zf_zm_132_21 env, zpc_c⟩,
  Or.inl ⟨54, zf_zm_132_22 env, zpc_c⟩,
  Or.inl ⟨55, zf_zm_132_23 env, zpc_c⟩,
  Or.inl ⟨56, zf_zm_132_24 env, zpc_c⟩,
  Or.inl ⟨59, zf_zm_132_25 env, zpc_c⟩,
  Or.inl ⟨62, zf_zm_132_26 env, zpc_c⟩,
  Or.inl ⟨63, zf_zm_132_27 env, zpc_c⟩,
  Or.inr (Or.inl (zf_zm_132_28 env)), trivial⟩
theorem zf_zm_133_0 (env : List (Nat × Nat)) : zI9 133 zY_133 zm_133 env (0, 63, 2, 0, 0) 1 := zi_iload_n (by decide +kernel : decode zY_133.2.1 0 = .ok (.iload_n 2, 1)) rfl
theorem zf_zm_133_1 (env : List (Nat × Nat)) : zI9 133 zY_133 zm_133 env (1, 5, 4, 0, 0) 4 := zi_if_eq (off := 7) (t := 8) (by decide +kernel : decode zY_133.2.1 1 = .ok (.ifCond .eq 7, 3)) (by decide) (by decide +kernel)
theorem zf_zm_133_2 (env : List (Nat × Nat)) : zI9 133 zY_133 zm_133 env (4, 2, 0, 0, 0) 5 := zi_iconst (by decide +kernel : decode zY_133.2.1 4 = .ok (.iconst 0, 1)) (by decide +kernel)
theorem zf_zm_133_3 (env : List (Nat × Nat)) : zI9 133 zY_133 zm_133 env (5, 7, 5, 0, 0) 8 := zi_goto (off := 4) (t := 9) (by decide +kernel : decode zY_133.2.1 5 = .ok (.goto 4, 3)) (by decide) (by decide +kernel)
theorem zf_zm_133_4 (env : List (Nat × Nat)) : zI9 133 zY_133 zm_133 env (8, 2, 1, 0, 0) 9 := zi_iconst (by decide +kernel : decode zY_133.2.1 8 = .ok (.iconst 1, 1)) (by decide +kernel)
theorem zf_zm_133_5 (env : List (Nat × Nat)) : zI9 133 zY_133 zm_133 env (9, 10, 3, 0, 0) 10 := zi_istore_n (by decide +kernel : decode zY_133.2.1 9 = .ok (.istore_n 3, 1)) rfl (by decide)
theorem zf_zm_133_6 (env : List (Nat × Nat)) : zI9 133 zY_133 zm_133 env (10, 2, 2, 0, 0) 11 := zi_iconst (by decide +kernel : decode zY_133.2.1 10 = .ok (.iconst 2, 1)) (by decide +kernel)
theorem zf_zm_133_7 (env : List (Nat × Nat)) : zI9 133 zY_133 zm_133 env (11, 63, 1, 0, 0) 12 := zi_iload_n (by decide +kernel : decode zY_133.2.1 11 = .ok (.iload_n 1, 1)) rfl
theorem zf_zm_133_8 (env : List (Nat × Nat)) : zI9 133 zY_133 zm_133 env (12, 36, 0, 0, 0) 13 := zi_imul (by decide +kernel : decode zY_133.2.1 12 = .ok (.imul, 1))
theorem zf_zm_133_9 (env : List (Nat × Nat)) : zI9 133 zY_133 zm_133 env (13, 63, 3, 0, 0) 14 := zi_iload_n (by decide +kernel : decode zY_133.2.1 13 = .ok (.iload_n 3, 1)) rfl
theorem zf_zm_133_10 (env : List (Nat × Nat)) : zI9 133 zY_133 zm_133 env (14, 9, 0, 0, 0) 15 := zi_iadd (by decide +kernel : decode zY_133.2.1 14 = .ok (.iadd, 1))
theorem zf_zm_133_11 (env : List (Nat × Nat)) : zI9 133 zY_133 zm_133 env (15, 10, 4, 0, 0) 17 := zi_istore (by decide +kernel : decode zY_133.2.1 15 = .ok (.istore 4, 2)) (by decide)
theorem zf_zm_133_12 (env : List (Nat × Nat)) : zI9 133 zY_133 zm_133 env (17, 0, 0, 0, 0) 18 := zi_aload_n (by decide +kernel : decode zY_133.2.1 17 = .ok (.aload_n 0, 1)) rfl
theorem zf_zm_133_13 (env : List (Nat × Nat)) : zI9 133 zY_133 zm_133 env (18, 1, 19, 4, 2) 21 := zi_getf (i := 24) (N := 56) (C := "TransportPairModel$Streams") (ref := "TransportPairModel$Streams") (T := zF_19) (by decide +kernel : decode zY_133.2.1 18 = .ok (.getfield 24, 3)) rfl zuw_19 (by decide) (zw_T zwd_40) rfl
theorem zf_zm_133_14 (env : List (Nat × Nat)) : zI9 133 zY_133 zm_133 env (21, 63, 4, 0, 0) 23 := zi_iload (by decide +kernel : decode zY_133.2.1 21 = .ok (.iload 4, 2))
theorem zf_zm_133_15 (env : List (Nat × Nat)) : zI9 133 zY_133 zm_133 env (23, 8, 0, 0, 0) 24 := zi_iald (zscr_ok (by decide +kernel : decode zY_133.2.1 23 = .ok (.iaload, 1))) (by decide +kernel : decode zY_133.2.1 23 = .ok (.iaload, 1))
theorem zf_zm_133_16 (env : List (Nat × Nat)) : zI9 133 zY_133 zm_133 env (24, 16, 0, 0, 0) 25 := zi_i2l (by decide +kernel : decode zY_133.2.1 24 = .ok (.i2l, 1))
theorem zf_zm_133_17 (env : List (Nat × Nat)) : zI9 133 zY_133 zm_133 env (25, 0, 0, 0, 0) 26 := zi_aload_n (by decide +kernel : decode zY_133.2.1 25 = .ok (.aload_n 0, 1)) rfl
theorem zf_zm_133_18 (env : List (Nat × Nat)) : zI9 133 zY_133 zm_133 env (26, 1, 19, 2, 2) 29 := zi_getf (i := 18) (N := 56) (C := "TransportPairModel$Streams") (ref := "TransportPairModel$Streams") (T := zF_19) (by decide +kernel : decode zY_133.2.1 26 = .ok (.getfield 18, 3)) rfl zuw_19 (by decide) (zw_T zwd_38) rfl
theorem zf_zm_133_19 (env : List (Nat × Nat)) : zI9 133 zY_133 zm_133 env (29, 2, 3, 0, 0) 30 := zi_iconst (by decide +kernel : decode zY_133.2.1 29 = .ok (.iconst 3, 1)) (by decide +kernel)
theorem zf_zm_133_20 (env : List (Nat × Nat)) : zI9 133 zY_133 zm_133 env (30, 63, 1, 0, 0) 31 := zi_iload_n (by decide +kernel : decode zY_133.2.1 30 = .ok (.iload_n 1, 1)) rfl
theorem zf_zm_133_21 (env : List (Nat × Nat)) : zI9 133 zY_133 zm_133 env (31, 36, 0, 0, 0) 32 := zi_imul (by decide +kernel : decode zY_133.2.1 31 = .ok (.imul, 1))
theorem zf_zm_133_22 (env : List (Nat × Nat)) : zI9 133 zY_133 zm_133 env (32, 2, 1, 0, 0) 33 := zi_iconst (by decide +kernel : decode zY_133.2.1 32 = .ok (.iconst 1, 1)) (by decide +kernel)
theorem zf_zm_133_23 (env : List (Nat × Nat)) : zI9 133 zY_133 zm_133 env (33, 9, 0, 0, 0) 34 := zi_iadd (by decide +kernel : decode zY_133.2.1 33 = .ok (.iadd, 1))
theorem zf_zm_133_24 (env : List (Nat × Nat)) : zI9 133 zY_133 zm_133 env (34, 63, 3, 0, 0) 35 := zi_iload_n (by decide +kernel : decode zY_133.2.1 34 = .ok (.iload_n 3, 1)) rfl
theorem zf_zm_133_25 (env : List (Nat × Nat)) : zI9 133 zY_133 zm_133 env (35, 9, 0, 0, 0) 36 := zi_iadd (by decide +kernel : decode zY_133.2.1 35 = .ok (.iadd, 1))
theorem zf_zm_133_26 (env : List (Nat × Nat)) : zI9 133 zY_133 zm_133 env (36, 26, 0, 0, 0) 37 := zi_lald (by decide +kernel : decode zY_133.2.1 36 = .ok (.laload, 1))
theorem zf_zm_133_27 (env : List (Nat × Nat)) : zI9 133 zY_133 zm_133 env (37, 34, 0, 0, 0) 38 := zi_lcmp (by decide +kernel : decode zY_133.2.1 37 = .ok (.lcmp, 1))
theorem zf_zm_133_28 (env : List (Nat × Nat)) : zI9 133 zY_133 zm_133 env (38, 23, 30, 0, 0) 41 := zi_if_ge (off := 15) (t := 53) (by decide +kernel : decode zY_133.2.1 38 = .ok (.ifCond .ge 15, 3)) (by decide) (by decide +kernel)
theorem zf_zm_133_29 (env : List (Nat × Nat)) : zI9 133 zY_133 zm_133 env (41, 99, 0, 0, 0) 53 := zi_none
theorem zf_zm_133_30 (env : List (Nat × Nat)) : zI9 133 zY_133 zm_133 env (53, 0, 0, 0, 0) 54 := zi_aload_n (by decide +kernel : decode zY_133.2.1 53 = .ok (.aload_n 0, 1)) rfl
theorem zf_zm_133_31 (env : List (Nat × Nat)) : zI9 133 zY_133 zm_133 env (54, 1, 19, 8, 2) 57 := zi_getf (i := 38) (N := 56) (C := "TransportPairModel$Streams") (ref := "TransportPairModel$Streams") (T := zF_19) (by decide +kernel : decode zY_133.2.1 54 = .ok (.getfield 38, 3)) rfl zuw_19 (by decide) (zw_T zwd_45) rfl
theorem zf_zm_133_32 (env : List (Nat × Nat)) : zI9 133 zY_133 zm_133 env (57, 63, 4, 0, 0) 59 := zi_iload (by decide +kernel : decode zY_133.2.1 57 = .ok (.iload 4, 2))
theorem zf_zm_133_33 (env : List (Nat × Nat)) : zI9 133 zY_133 zm_133 env (59, 2, 1, 0, 0) 60 := zi_iconst (by decide +kernel : decode zY_133.2.1 59 = .ok (.iconst 1, 1)) (by decide +kernel)
theorem zf_zm_133_34 (env : List (Nat × Nat)) : zI9 133 zY_133 zm_133 env (60, 79, 0, 0, 0) 61 := zi_zast (by decide +kernel : decode zY_133.2.1 60 = .ok (.bastore, 1))
theorem zf_zm_133_35 (env : List (Nat × Nat)) : zI9 133 zY_133 zm_133 env (61, 2, 4294967295, 0, 0) 62 := zi_iconst (by decide +kernel : decode zY_133.2.1 61 = .ok (.iconst (-1), 1)) (by decide +kernel)
theorem zf_zm_133_36 (env : List (Nat × Nat)) : zR9 133 env (62, 11, 0, 0, 0) := zi_iret (by decide +kernel : decode (zYf 133).2.1 62 = .ok (.ireturn, 1)) rfl
theorem zf_zm_133_37 (env : List (Nat × Nat)) : zI9 133 zY_133 zm_133 env (63, 99, 0, 0, 0) 0 := zi_none
set_option maxRecDepth 100000 in
theorem zc_zm_133 (env : List (Nat × Nat)) : zcode zX (z_QF zEX zcl zft) (z_zm zEX zX zWL zcl zft zYf) zYf zW zET zcl zft (zGv env) 133 zm_133 zm_133.1 := ⟨Or.inl ⟨1, zf_zm_133_0 env, zpc_c⟩,
  Or.inl ⟨4, zf_zm_133_1 env, zpc_c⟩,
  Or.inl ⟨5, zf_zm_133_2 env, zpc_c⟩,
  Or.inl ⟨8, zf_zm_133_3 env, zpc_c⟩,
  Or.inl ⟨9, zf_zm_133_4 env, zpc_c⟩,
  Or.inl ⟨10, zf_zm_133_5 env, zpc_c⟩,
  Or.inl ⟨11, zf_zm_133_6 env, zpc_c⟩,
  Or.inl ⟨12, zf_zm_133_7 env, zpc_c⟩,
  Or.inl ⟨13, zf_zm_133_8 env, zpc_c⟩,
  Or.inl ⟨14, zf_zm_133_9 env, zpc_c⟩,
  Or.inl ⟨15, zf_zm_133_10 env, zpc_c⟩,
  Or.inl ⟨17, zf_zm_133_11 env, zpc_c⟩,
  Or.inl ⟨18, zf_zm_133_12 env, zpc_c⟩,
  Or.inl ⟨21, zf_zm_133_13 env, zpc_c⟩,
  Or.inl ⟨23, zf_zm_133_14 env, zpc_c⟩,
  Or.inl ⟨24, zf_zm_133_15 env, zpc_c⟩,
  Or.inl ⟨25, zf_zm_133_16 env, zpc_c⟩,
  Or.inl ⟨26, zf_zm_133_17 env, zpc_c⟩,
  Or.inl ⟨29, zf_zm_133_18 env, zpc_c⟩,
  Or.inl ⟨30, zf_zm_133_19 env, zpc_c⟩,
  Or.inl ⟨31, zf_zm_133_20 env, zpc_c⟩,
  Or.inl ⟨32, zf_zm_133_21 env, zpc_c⟩,
  Or.inl ⟨33, zf_zm_133_22 env, zpc_c⟩,
  Or.inl ⟨34, zf_zm_133_23 env, zpc_c⟩,
  Or.inl ⟨35, zf_zm_133_24 env, zpc_c⟩,
  Or.inl ⟨36, zf_zm_133_25 env, zpc_c⟩,
  Or.inl ⟨37, zf_zm_133_26 env, zpc_c⟩,
  Or.inl ⟨38, zf_zm_133_27 env, zpc_c⟩,
  Or.inl ⟨41, zf_zm_133_28 env, zpc_c⟩,
  Or.inl ⟨53, zf_zm_133_29 env, zpc_c⟩,
  Or.inl ⟨54, zf_zm_133_30 env, zpc_c⟩,
  Or.inl ⟨57, zf_zm_133_31 env, zpc_c⟩,
  Or.inl ⟨59, zf_zm_133_32 env, zpc_c⟩,
  Or.inl ⟨60, zf_zm_133_33 env, zpc_c⟩,
  Or.inl ⟨61, zf_zm_133_34 env, zpc_c⟩,
  Or.inl ⟨62, zf_zm_133_35 env, zpc_c⟩,
  Or.inr (Or.inl (zf_zm_133_36 env)),
  Or.inl ⟨0, zf_zm_133_37 env, zpc_n⟩, trivial⟩
theorem zf_zm_134_0 (env : List (Nat × Nat)) : zI9 134 zY_134 zm_134 env (0, 0, 0, 0, 0) 1 := zi_aload_n (by decide +kernel : decode zY_134.2.1 0 = .ok (.aload_n 0, 1)) rfl
theorem zf_zm_134_1 (env : List (Nat × Nat)) : zI9 134 zY_134 zm_134 env (1, 63, 1, 0, 0) 2 := zi_iload_n (by decide +kernel : decode zY_134.2.1 1 = .ok (.iload_n 1, 1)) rfl
theorem zf_zm_134_2 (env : List (Nat × Nat)) : zI9 134 zY_134 zm_134 env (2, 63, 2, 0, 0) 3 := zi_iload_n (by decide +kernel : decode zY_134.2.1 2 = .ok (.iload_n 2, 1)) rfl
theorem zf_zm_134_3 (env : List (Nat × Nat)) : zC9 134 zm_134 env (3, 66, 128, 195, 21) := zi_call (by decide +kernel) (zr_V (i := 200) (n := 2) (q := ("TransportPairModel$Streams", zF_19, 56)) zX_ok rfl (zgood_128) (by decide +kernel) (zw_T zwd_221) (zw_T zwd_682) (zw_T zwd_683) rfl (zw_T zwd_684) ⟨by decide +kernel, by decide +kernel, by decide +kernel⟩ rfl (by decide +kernel : decode (zYf 134).2.1 3 = .ok (.invokevirtual 200, 3)))
theorem zf_zm_134_4 (env : List (Nat × Nat)) : zI9 134 zY_134 zm_134 env (6, 5, 6, 0, 0) 9 := zi_if_eq (off := 15) (t := 21) (by decide +kernel : decode zY_134.2.1 6 = .ok (.ifCond .eq 15, 3)) (by decide) (by decide +kernel)
theorem zf_zm_134_5 (env : List (Nat × Nat)) : zI9 134 zY_134 zm_134 env (9, 99, 0, 0, 0) 21 := zi_none
theorem zf_zm_134_6 (env : List (Nat × Nat)) : zI9 134 zY_134 zm_134 env (21, 2, 4294967295, 0, 0) 22 := zi_iconst (by decide +kernel : decode zY_134.2.1 21 = .ok (.iconst (-1), 1)) (by decide +kernel)
theorem zf_zm_134_7 (env : List (Nat × Nat)) : zR9 134 env (22, 11, 0, 0, 0) := zi_iret (by decide +kernel : decode (zYf 134).2.1 22 = .ok (.ireturn, 1)) rfl
theorem zf_zm_134_8 (env : List (Nat × Nat)) : zI9 134 zY_134 zm_134 env (23, 99, 0, 0, 0) 0 := zi_none
set_option maxRecDepth 100000 in
theorem zc_zm_134 (env : List (Nat × Nat)) : zcode zX (z_QF zEX zcl zft) (z_zm zEX zX zWL zcl zft zYf) zYf zW zET zcl zft (zGv env) 134 zm_134 zm_134.1 := ⟨Or.inl ⟨1, zf_zm_134_0 env, zpc_c⟩,
  Or.inl ⟨2, zf_zm_134_1 env, zpc_c⟩,
  Or.inl ⟨3, zf_zm_134_2 env, zpc_c⟩,
  Or.inr (Or.inr (Or.inl ⟨zf_zm_134_3 env, zpc_c⟩)),
  Or.inl ⟨9, zf_zm_134_4 env, zpc_c⟩,
  Or.inl ⟨21, zf_zm_134_5 env, zpc_c⟩,
  Or.inl ⟨22, zf_zm_134_6 env, zpc_c⟩,
  Or.inr (Or.inl (zf_zm_134_7 env)),
  Or.inl ⟨0, zf_zm_134_8 env, zpc_n⟩, trivial⟩
theorem zf_zm_135_0 (env : List (Nat × Nat)) : zI9 135 zY_135 zm_135 env (0, 0, 0, 0, 0) 1 := zi_aload_n (by decide +kernel : decode zY_135.2.1 0 = .ok (.aload_n 0, 1)) rfl
theorem zf_zm_135_1 (env : List (Nat × Nat)) : zI9 135 zY_135 zm_135 env (1, 63, 1, 0, 0) 2 := zi_iload_n (by decide +kernel : decode zY_135.2.1 1 = .ok (.iload_n 1, 1)) rfl
theorem zf_zm_135_2 (env : List (Nat × Nat)) : zI9 135 zY_135 zm_135 env (2, 63, 2, 0, 0) 3 := zi_iload_n (by decide +kernel : decode zY_135.2.1 2 = .ok (.iload_n 2, 1)) rfl
theorem zf_zm_135_3 (env : List (Nat × Nat)) : zC9 135 zm_135 env (3, 66, 128, 195, 21) := zi_call (by decide +kernel) (zr_V (i := 200) (n := 2) (q := ("TransportPairModel$Streams", zF_19, 56)) zX_ok rfl (zgood_128) (by decide +kernel) (zw_T zwd_221) (zw_T zwd_682) (zw_T zwd_683) rfl (zw_T zwd_684) ⟨by decide +kernel, by decide +kernel, by decide +kernel⟩ rfl (by decide +kernel : decode (zYf 135).2.1 3 = .ok (.invokevirtual 200, 3)))
theorem zf_zm_135_4 (env : List (Nat × Nat)) : zI9 135 zY_135 zm_135 env (6, 5, 6, 0, 0) 9 := zi_if_eq (off := 15) (t := 21) (by decide +kernel : decode zY_135.2.1 6 = .ok (.ifCond .eq 15, 3)) (by decide) (by decide +kernel)
theorem zf_zm_135_5 (env : List (Nat × Nat)) : zI9 135 zY_135 zm_135 env (9, 99, 0, 0, 0) 21 := zi_none
theorem zf_zm_135_6 (env : List (Nat × Nat)) : zI9 135 zY_135 zm_135 env (21, 2, 0, 0, 0) 22 := zi_iconst (by decide +kernel : decode zY_135.2.1 21 = .ok (.iconst 0, 1)) (by decide +kernel)
theorem zf_zm_135_7 (env : List (Nat × Nat)) : zR9 135 env (22, 11, 3, 0, 0) := zi_zret (by decide +kernel : decode (zYf 135).2.1 22 = .ok (.ireturn, 1)) rfl
theorem zf_zm_135_8 (env : List (Nat × Nat)) : zI9 135 zY_135 zm_135 env (23, 99, 0, 0, 0) 0 := zi_none
set_option maxRecDepth 100000 in
theorem zc_zm_135 (env : List (Nat × Nat)) : zcode zX (z_QF zEX zcl zft) (z_zm zEX zX zWL zcl zft zYf) zYf zW zET zcl zft (zGv env) 135 zm_135 zm_135.1 := ⟨Or.inl ⟨1, zf_zm_135_0 env, zpc_c⟩,
  Or.inl ⟨2, zf_zm_135_1 env, zpc_c⟩,
  Or.inl ⟨3, zf_zm_135_2 env, zpc_c⟩,
  Or.inr (Or.inr (Or.inl ⟨zf_zm_135_3 env, zpc_c⟩)),
  Or.inl ⟨9, zf_zm_135_4 env, zpc_c⟩,
  Or.inl ⟨21, zf_zm_135_5 env, zpc_c⟩,
  Or.inl ⟨22, zf_zm_135_6 env, zpc_c⟩,
  Or.inr (Or.inl (zf_zm_135_7 env)),
  Or.inl ⟨0, zf_zm_135_8 env, zpc_n⟩, trivial⟩
theorem zf_zm_136_0 (env : List (Nat × Nat)) : zI9 136 zY_136 zm_136 env (0, 0, 0, 0, 0) 1 := zi_aload_n (by decide +kernel : decode zY_136.2.1 0 = .ok (.aload_n 0, 1)) rfl
theorem zf_zm_136_1 (env : List (Nat × Nat)) : zI9 136 zY_136 zm_136 env (1, 63, 1, 0, 0) 2 := zi_iload_n (by decide +kernel : decode zY_136.2.1 1 = .ok (.iload_n 1, 1)) rfl
theorem zf_zm_136_2 (env : List (Nat × Nat)) : zI9 136 zY_136 zm_136 env (2, 63, 2, 0, 0) 3 := zi_iload_n (by decide +kernel : decode zY_136.2.1 2 = .ok (.iload_n 2, 1)) rfl
theorem zf_zm_136_3 (env : List (Nat × Nat)) : zC9 136 zm_136 env (3, 66, 130, 195, 21) := zi_call (by decide +kernel) (zr_V (i := 226) (n := 2) (q := ("TransportPairModel$Streams", zF_19, 56)) zX_ok rfl (zgood_130) (by decide +kernel) (zw_T zwd_221) (zw_T zwd_685) (zw_T zwd_686) rfl (zw_T (zt_sel (y := ⟨"TransportPairModel$Streams","isOpenSending","(II)Z"⟩) (n := 56) 119 (by decide +kernel))) ⟨by decide +kernel, by decide +kernel, by decide +kernel⟩ rfl (by decide +kernel : decode (zYf 136).2.1 3 = .ok (.invokevirtual 226, 3)))
theorem zf_zm_136_4 (env : List (Nat × Nat)) : zI9 136 zY_136 zm_136 env (6, 6, 7, 0, 0) 9 := zi_if_ne (off := 5) (t := 11) (by decide +kernel : decode zY_136.2.1 6 = .ok (.ifCond .ne 5, 3)) (by decide) (by decide +kernel)
theorem zf_zm_136_5 (env : List (Nat × Nat)) : zI9 136 zY_136 zm_136 env (9, 2, 0, 0, 0) 10 := zi_iconst (by decide +kernel : decode zY_136.2.1 9 = .ok (.iconst 0, 1)) (by decide +kernel)
theorem zf_zm_136_6 (env : List (Nat × Nat)) : zR9 136 env (10, 11, 3, 0, 0) := zi_zret (by decide +kernel : decode (zYf 136).2.1 10 = .ok (.ireturn, 1)) rfl
theorem zf_zm_136_7 (env : List (Nat × Nat)) : zI9 136 zY_136 zm_136 env (11, 99, 0, 0, 0) 0 := zi_none
set_option maxRecDepth 100000 in
theorem zc_zm_136 (env : List (Nat × Nat)) : zcode zX (z_QF zEX zcl zft) (z_zm zEX zX zWL zcl zft zYf) zYf zW zET zcl zft (zGv env) 136 zm_136 zm_136.1 := ⟨Or.inl ⟨1, zf_zm_136_0 env, zpc_c⟩,
  Or.inl ⟨2, zf_zm_136_1 env, zpc_c⟩,
  Or.inl ⟨3, zf_zm_136_2 env, zpc_c⟩,
  Or.inr (Or.inr (Or.inl ⟨zf_zm_136_3 env, zpc_c⟩)),
  Or.inl ⟨9, zf_zm_136_4 env, zpc_c⟩,
  Or.inl ⟨10, zf_zm_136_5 env, zpc_c⟩,
  Or.inr (Or.inl (zf_zm_136_6 env)),
  Or.inl ⟨0, zf_zm_136_7 env, zpc_n⟩, trivial⟩
theorem zf_zm_137_0 (env : List (Nat × Nat)) : zI9 137 zY_137 zm_137 env (0, 63, 1, 0, 0) 1 := zi_iload_n (by decide +kernel : decode zY_137.2.1 0 = .ok (.iload_n 1, 1)) rfl
theorem zf_zm_137_1 (env : List (Nat × Nat)) : zI9 137 zY_137 zm_137 env (1, 63, 2, 0, 0) 2 := zi_iload_n (by decide +kernel : decode zY_137.2.1 1 = .ok (.iload_n 2, 1)) rfl
theorem zf_zm_137_2 (env : List (Nat × Nat)) : zC9 137 zm_137 env (2, 66, 126, 130, 0) := zi_call (by decide +kernel) (zr_S (i := 182) zX_ok rfl (zgood_126) (by decide +kernel) (zw_T zwd_221) (zw_T zwd_678) (zw_T zwd_679) ⟨by decide +kernel, by decide +kernel, by decide +kernel⟩ (by decide +kernel : decode (zYf 137).2.1 2 = .ok (.invokestatic 182, 3)))
theorem zf_zm_137_3 (env : List (Nat × Nat)) : zI9 137 zY_137 zm_137 env (5, 10, 5, 0, 0) 7 := zi_istore (by decide +kernel : decode zY_137.2.1 5 = .ok (.istore 5, 2)) (by decide)
theorem zf_zm_137_4 (env : List (Nat × Nat)) : zI9 137 zY_137 zm_137 env (7, 0, 0, 0, 0) 8 := zi_aload_n (by decide +kernel : decode zY_137.2.1 7 = .ok (.aload_n 0, 1)) rfl
theorem zf_zm_137_5 (env : List (Nat × Nat)) : zI9 137 zY_137 zm_137 env (8, 63, 1, 0, 0) 9 := zi_iload_n (by decide +kernel : decode zY_137.2.1 8 = .ok (.iload_n 1, 1)) rfl
theorem zf_zm_137_6 (env : List (Nat × Nat)) : zI9 137 zY_137 zm_137 env (9, 63, 2, 0, 0) 10 := zi_iload_n (by decide +kernel : decode zY_137.2.1 9 = .ok (.iload_n 2, 1)) rfl
theorem zf_zm_137_7 (env : List (Nat × Nat)) : zC9 137 zm_137 env (10, 66, 129, 195, 21) := zi_call (by decide +kernel) (zr_V (i := 233) (n := 2) (q := ("TransportPairModel$Streams", zF_19, 56)) zX_ok rfl (zgood_129) (by decide +kernel) (zw_T zwd_221) (zw_T zwd_687) (zw_T zwd_688) rfl (zw_T zwd_689) ⟨by decide +kernel, by decide +kernel, by decide +kernel⟩ rfl (by decide +kernel : decode (zYf 137).2.1 10 = .ok (.invokevirtual 233, 3)))
theorem zf_zm_137_8 (env : List (Nat × Nat)) : zI9 137 zY_137 zm_137 env (13, 5, 10, 0, 0) 16 := zi_if_eq (off := 23) (t := 36) (by decide +kernel : decode zY_137.2.1 13 = .ok (.ifCond .eq 23, 3)) (by decide) (by decide +kernel)
theorem zf_zm_137_9 (env : List (Nat × Nat)) : zI9 137 zY_137 zm_137 env (16, 99, 0, 0, 0) 36 := zi_none
theorem zf_zm_137_10 (env : List (Nat × Nat)) : zI9 137 zY_137 zm_137 env (36, 2, 0, 0, 0) 37 := zi_iconst (by decide +kernel : decode zY_137.2.1 36 = .ok (.iconst 0, 1)) (by decide +kernel)
theorem zf_zm_137_11 (env : List (Nat × Nat)) : zR9 137 env (37, 11, 3, 0, 0) := zi_zret (by decide +kernel : decode (zYf 137).2.1 37 = .ok (.ireturn, 1)) rfl
theorem zf_zm_137_12 (env : List (Nat × Nat)) : zI9 137 zY_137 zm_137 env (38, 99, 0, 0, 0) 0 := zi_none
set_option maxRecDepth 100000 in
theorem zc_zm_137 (env : List (Nat × Nat)) : zcode zX (z_QF zEX zcl zft) (z_zm zEX zX zWL zcl zft zYf) zYf zW zET zcl zft (zGv env) 137 zm_137 zm_137.1 := ⟨Or.inl ⟨1, zf_zm_137_0 env, zpc_c⟩,
  Or.inl ⟨2, zf_zm_137_1 env, zpc_c⟩,
  Or.inr (Or.inr (Or.inl ⟨zf_zm_137_2 env, zpc_c⟩)),
  Or.inl ⟨7, zf_zm_137_3 env, zpc_c⟩,
  Or.inl ⟨8, zf_zm_137_4 env, zpc_c⟩,
  Or.inl ⟨9, zf_zm_137_5 env, zpc_c⟩,
  Or.inl ⟨10, zf_zm_137_6 env, zpc_c⟩,
  Or.inr (Or.inr (Or.inl ⟨zf_zm_137_7 env, zpc_c⟩)),
  Or.inl ⟨16, zf_zm_137_8 env, zpc_c⟩,
  Or.inl ⟨36, zf_zm_137_9 env, zpc_c⟩,
  Or.inl ⟨37, zf_zm_137_10 env, zpc_c⟩,
  Or.inr (Or.inl (zf_zm_137_11 env)),
  Or.inl ⟨0, zf_zm_137_12 env, zpc_n⟩, trivial⟩
theorem zf_zm_138_0 (env : List (Nat × Nat)) : zI9 138 zY_138 zm_138 env (0, 0, 0, 0, 0) 1 := zi_aload_n (by decide +kernel : decode zY_138.2.1 0 = .ok (.aload_n 0, 1)) rfl
theorem zf_zm_138_1 (env : List (Nat × Nat)) : zI9 138 zY_138 zm_138 env (1, 63, 1, 0, 0) 2 := zi_iload_n (by decide +kernel : decode zY_138.2.1 1 = .ok (.iload_n 1, 1)) rfl
theorem zf_zm_138_2 (env : List (Nat × Nat)) : zI9 138 zY_138 zm_138 env (2, 63, 2, 0, 0) 3 := zi_iload_n (by decide +kernel : decode zY_138.2.1 2 = .ok (.iload_n 2, 1)) rfl
theorem zf_zm_138_3 (env : List (Nat × Nat)) : zC9 138 zm_138 env (3, 66, 129, 195, 21) := zi_call (by decide +kernel) (zr_V (i := 233) (n := 2) (q := ("TransportPairModel$Streams", zF_19, 56)) zX_ok rfl (zgood_129) (by decide +kernel) (zw_T zwd_221) (zw_T zwd_687) (zw_T zwd_688) rfl (zw_T zwd_689) ⟨by decide +kernel, by decide +kernel, by decide +kernel⟩ rfl (by decide +kernel : decode (zYf 138).2.1 3 = .ok (.invokevirtual 233, 3)))
theorem zf_zm_138_4 (env : List (Nat × Nat)) : zI9 138 zY_138 zm_138 env (6, 6, 7, 0, 0) 9 := zi_if_ne (off := 5) (t := 11) (by decide +kernel : decode zY_138.2.1 6 = .ok (.ifCond .ne 5, 3)) (by decide) (by decide +kernel)
theorem zf_zm_138_5 (env : List (Nat × Nat)) : zI9 138 zY_138 zm_138 env (9, 2, 4294967295, 0, 0) 10 := zi_iconst (by decide +kernel : decode zY_138.2.1 9 = .ok (.iconst (-1), 1)) (by decide +kernel)
theorem zf_zm_138_6 (env : List (Nat × Nat)) : zR9 138 env (10, 11, 0, 0, 0) := zi_iret (by decide +kernel : decode (zYf 138).2.1 10 = .ok (.ireturn, 1)) rfl
theorem zf_zm_138_7 (env : List (Nat × Nat)) : zI9 138 zY_138 zm_138 env (11, 99, 0, 0, 0) 0 := zi_none
set_option maxRecDepth 100000 in
theorem zc_zm_138 (env : List (Nat × Nat)) : zcode zX (z_QF zEX zcl zft) (z_zm zEX zX zWL zcl zft zYf) zYf zW zET zcl zft (zGv env) 138 zm_138 zm_138.1 := ⟨Or.inl ⟨1, zf_zm_138_0 env, zpc_c⟩,
  Or.inl ⟨2, zf_zm_138_1 env, zpc_c⟩,
  Or.inl ⟨3, zf_zm_138_2 env, zpc_c⟩,
  Or.inr (Or.inr (Or.inl ⟨zf_zm_138_3 env, zpc_c⟩)),
  Or.inl ⟨9, zf_zm_138_4 env, zpc_c⟩,
  Or.inl ⟨10, zf_zm_138_5 env, zpc_c⟩,
  Or.inr (Or.inl (zf_zm_138_6 env)),
  Or.inl ⟨0, zf_zm_138_7 env, zpc_n⟩, trivial⟩
theorem zf_zm_139_0 (env : List (Nat × Nat)) : zI9 139 zY_139 zm_139 env (0, 63, 3, 0, 0) 1 := zi_iload_n (by decide +kernel : decode zY_139.2.1 0 = .ok (.iload_n 3, 1)) rfl
theorem zf_zm_139_1 (env : List (Nat × Nat)) : zI9 139 zY_139 zm_139 env (1, 2, 8, 0, 0) 3 := zi_bipush (by decide +kernel : decode zY_139.2.1 1 = .ok (.bipush 8, 2)) (by decide +kernel)
theorem zf_zm_139_2 (env : List (Nat × Nat)) : zI9 139 zY_139 zm_139 env (3, 28, 9, 0, 0) 6 := zi_icmp_ge (off := 15) (t := 18) (by decide +kernel : decode zY_139.2.1 3 = .ok (.if_icmp .ge 15, 3)) (by decide) (by decide +kernel)
theorem zf_zm_139_3 (env : List (Nat × Nat)) : zI9 139 zY_139 zm_139 env (6, 0, 0, 0, 0) 7 := zi_aload_n (by decide +kernel : decode zY_139.2.1 6 = .ok (.aload_n 0, 1)) rfl
theorem zf_zm_139_4 (env : List (Nat × Nat)) : zI9 139 zY_139 zm_139 env (7, 63, 1, 0, 0) 8 := zi_iload_n (by decide +kernel : decode zY_139.2.1 7 = .ok (.iload_n 1, 1)) rfl
theorem zf_zm_139_5 (env : List (Nat × Nat)) : zI9 139 zY_139 zm_139 env (8, 63, 2, 0, 0) 9 := zi_iload_n (by decide +kernel : decode zY_139.2.1 8 = .ok (.iload_n 2, 1)) rfl
theorem zf_zm_139_6 (env : List (Nat × Nat)) : zC9 139 zm_139 env (9, 66, 128, 195, 21) := zi_call (by decide +kernel) (zr_V (i := 200) (n := 2) (q := ("TransportPairModel$Streams", zF_19, 56)) zX_ok rfl (zgood_128) (by decide +kernel) (zw_T zwd_221) (zw_T zwd_682) (zw_T zwd_683) rfl (zw_T zwd_684) ⟨by decide +kernel, by decide +kernel, by decide +kernel⟩ rfl (by decide +kernel : decode (zYf 139).2.1 9 = .ok (.invokevirtual 200, 3)))
theorem zf_zm_139_7 (env : List (Nat × Nat)) : zI9 139 zY_139 zm_139 env (12, 6, 16, 0, 0) 15 := zi_if_ne (off := 19) (t := 31) (by decide +kernel : decode zY_139.2.1 12 = .ok (.ifCond .ne 19, 3)) (by decide) (by decide +kernel)
theorem zf_zm_139_8 (env : List (Nat × Nat)) : zI9 139 zY_139 zm_139 env (15, 7, 14, 0, 0) 18 := zi_goto (off := 12) (t := 27) (by decide +kernel : decode zY_139.2.1 15 = .ok (.goto 12, 3)) (by decide) (by decide +kernel)
theorem zf_zm_139_9 (env : List (Nat × Nat)) : zI9 139 zY_139 zm_139 env (18, 0, 0, 0, 0) 19 := zi_aload_n (by decide +kernel : decode zY_139.2.1 18 = .ok (.aload_n 0, 1)) rfl
theorem zf_zm_139_10 (env : List (Nat × Nat)) : zI9 139 zY_139 zm_139 env (19, 63, 1, 0, 0) 20 := zi_iload_n (by decide +kernel : decode zY_139.2.1 19 = .ok (.iload_n 1, 1)) rfl
theorem zf_zm_139_11 (env : List (Nat × Nat)) : zI9 139 zY_139 zm_139 env (20, 63, 2, 0, 0) 21 := zi_iload_n (by decide +kernel : decode zY_139.2.1 20 = .ok (.iload_n 2, 1)) rfl
theorem zf_zm_139_12 (env : List (Nat × Nat)) : zC9 139 zm_139 env (21, 66, 129, 195, 21) := zi_call (by decide +kernel) (zr_V (i := 233) (n := 2) (q := ("TransportPairModel$Streams", zF_19, 56)) zX_ok rfl (zgood_129) (by decide +kernel) (zw_T zwd_221) (zw_T zwd_687) (zw_T zwd_688) rfl (zw_T zwd_689) ⟨by decide +kernel, by decide +kernel, by decide +kernel⟩ rfl (by decide +kernel : decode (zYf 139).2.1 21 = .ok (.invokevirtual 233, 3)))
theorem zf_zm_139_13 (env : List (Nat × Nat)) : zI9 139 zY_139 zm_139 env (24, 6, 16, 0, 0) 27 := zi_if_ne (off := 7) (t := 31) (by decide +kernel : decode zY_139.2.1 24 = .ok (.ifCond .ne 7, 3)) (by decide) (by decide +kernel)
theorem zf_zm_139_14 (env : List (Nat × Nat)) : zI9 139 zY_139 zm_139 env (27, 15, 18446744073709551615, 0, 0) 30 := zi_ldc2 (v := (-1)) (by decide +kernel : decode zY_139.2.1 27 = .ok (.ldc2_w 170, 3)) (by decide +kernel) (zw_T zwd_91)
theorem zf_zm_139_15 (env : List (Nat × Nat)) : zR9 139 env (30, 11, 1, 0, 0) := zi_lret (by decide +kernel : decode (zYf 139).2.1 30 = .ok (.lreturn, 1)) rfl
theorem zf_zm_139_16 (env : List (Nat × Nat)) : zI9 139 zY_139 zm_139 env (31, 99, 0, 0, 0) 0 := zi_none
set_option maxRecDepth 100000 in
theorem zc_zm_139 (env : List (Nat × Nat)) : zcode zX (z_QF zEX zcl zft) (z_zm zEX zX zWL zcl zft zYf) zYf zW zET zcl zft (zGv env) 139 zm_139 zm_139.1 := ⟨Or.inl ⟨1, zf_zm_139_0 env, zpc_c⟩,
  Or.inl ⟨3, zf_zm_139_1 env, zpc_c⟩,
  Or.inl ⟨6, zf_zm_139_2 env, zpc_c⟩,
  Or.inl ⟨7, zf_zm_139_3 env, zpc_c⟩,
  Or.inl ⟨8, zf_zm_139_4 env, zpc_c⟩,
  Or.inl ⟨9, zf_zm_139_5 env, zpc_c⟩,
  Or.inr (Or.inr (Or.inl ⟨zf_zm_139_6 env, zpc_c⟩)),
  Or.inl ⟨15, zf_zm_139_7 env, zpc_c⟩,
  Or.inl ⟨18, zf_zm_139_8 env, zpc_c⟩,
  Or.inl ⟨19, zf_zm_139_9 env, zpc_c⟩,
  Or.inl ⟨20, zf_zm_139_10 env, zpc_c⟩,
  Or.inl ⟨21, zf_zm_139_11 env, zpc_c⟩,
  Or.inr (Or.inr (Or.inl ⟨zf_zm_139_12 env, zpc_c⟩)),
  Or.inl ⟨27, zf_zm_139_13 env, zpc_c⟩,
  Or.inl ⟨30, zf_zm_139_14 env, zpc_c⟩,
  Or.inr (Or.inl (zf_zm_139_15 env)),
  Or.inl ⟨0, zf_zm_139_16 env, zpc_n⟩, trivial⟩
theorem zf_zm_140_0 (env : List (Nat × Nat)) : zI9 140 zY_140 zm_140 env (0, 63, 2, 0, 0) 1 := zi_iload_n (by decide +kernel : decode zY_140.2.1 0 = .ok (.iload_n 2, 1)) rfl
theorem zf_zm_140_1 (env : List (Nat × Nat)) : zI9 140 zY_140 zm_140 env (1, 40, 0, 0, 0) 68 := zi_switch (df := 75) (lo := 0) (tg := [2, 8, 15, 19, 23, 28, 28, 40, 40, 51, 51, 63, 63]) (by decide +kernel : decode zY_140.2.1 1 = .ok (.tableswitch 161 0 12 #[67, 75, 84, 90, 96, 103, 103, 117, 117, 131, 131, 146, 146], 67)) rfl (by decide) (by decide +kernel) (by decide +kernel)
theorem zf_zm_140_2 (env : List (Nat × Nat)) : zI9 140 zY_140 zm_140 env (68, 0, 0, 0, 0) 69 := zi_aload_n (by decide +kernel : decode zY_140.2.1 68 = .ok (.aload_n 0, 1)) rfl
theorem zf_zm_140_3 (env : List (Nat × Nat)) : zI9 140 zY_140 zm_140 env (69, 1, 19, 44, 2) 72 := zi_getf (i := 148) (N := 56) (C := "TransportPairModel$Streams") (ref := "TransportPairModel$Streams") (T := zF_19) (by decide +kernel : decode zY_140.2.1 69 = .ok (.getfield 148, 3)) rfl zuw_19 (by decide) (zw_T zwd_83) rfl
theorem zf_zm_140_4 (env : List (Nat × Nat)) : zI9 140 zY_140 zm_140 env (72, 63, 1, 0, 0) 73 := zi_iload_n (by decide +kernel : decode zY_140.2.1 72 = .ok (.iload_n 1, 1)) rfl
theorem zf_zm_140_5 (env : List (Nat × Nat)) : zI9 140 zY_140 zm_140 env (73, 8, 0, 0, 0) 74 := zi_iald (zscr_ok (by decide +kernel : decode zY_140.2.1 73 = .ok (.iaload, 1))) (by decide +kernel : decode zY_140.2.1 73 = .ok (.iaload, 1))
theorem zf_zm_140_6 (env : List (Nat × Nat)) : zI9 140 zY_140 zm_140 env (74, 16, 0, 0, 0) 75 := zi_i2l (by decide +kernel : decode zY_140.2.1 74 = .ok (.i2l, 1))
theorem zf_zm_140_7 (env : List (Nat × Nat)) : zR9 140 env (75, 11, 1, 0, 0) := zi_lret (by decide +kernel : decode (zYf 140).2.1 75 = .ok (.lreturn, 1)) rfl
theorem zf_zm_140_8 (env : List (Nat × Nat)) : zI9 140 zY_140 zm_140 env (76, 0, 0, 0, 0) 77 := zi_aload_n (by decide +kernel : decode zY_140.2.1 76 = .ok (.aload_n 0, 1)) rfl
theorem zf_zm_140_9 (env : List (Nat × Nat)) : zI9 140 zY_140 zm_140 env (77, 1, 19, 2, 2) 80 := zi_getf (i := 18) (N := 56) (C := "TransportPairModel$Streams") (ref := "TransportPairModel$Streams") (T := zF_19) (by decide +kernel : decode zY_140.2.1 77 = .ok (.getfield 18, 3)) rfl zuw_19 (by decide) (zw_T zwd_38) rfl
theorem zf_zm_140_10 (env : List (Nat × Nat)) : zI9 140 zY_140 zm_140 env (80, 2, 3, 0, 0) 81 := zi_iconst (by decide +kernel : decode zY_140.2.1 80 = .ok (.iconst 3, 1)) (by decide +kernel)
theorem zf_zm_140_11 (env : List (Nat × Nat)) : zI9 140 zY_140 zm_140 env (81, 63, 1, 0, 0) 82 := zi_iload_n (by decide +kernel : decode zY_140.2.1 81 = .ok (.iload_n 1, 1)) rfl
theorem zf_zm_140_12 (env : List (Nat × Nat)) : zI9 140 zY_140 zm_140 env (82, 36, 0, 0, 0) 83 := zi_imul (by decide +kernel : decode zY_140.2.1 82 = .ok (.imul, 1))
theorem zf_zm_140_13 (env : List (Nat × Nat)) : zI9 140 zY_140 zm_140 env (83, 26, 0, 0, 0) 84 := zi_lald (by decide +kernel : decode zY_140.2.1 83 = .ok (.laload, 1))
theorem zf_zm_140_14 (env : List (Nat × Nat)) : zR9 140 env (84, 11, 1, 0, 0) := zi_lret (by decide +kernel : decode (zYf 140).2.1 84 = .ok (.lreturn, 1)) rfl
theorem zf_zm_140_15 (env : List (Nat × Nat)) : zI9 140 zY_140 zm_140 env (85, 0, 0, 0, 0) 86 := zi_aload_n (by decide +kernel : decode zY_140.2.1 85 = .ok (.aload_n 0, 1)) rfl
theorem zf_zm_140_16 (env : List (Nat × Nat)) : zI9 140 zY_140 zm_140 env (86, 63, 1, 0, 0) 87 := zi_iload_n (by decide +kernel : decode zY_140.2.1 86 = .ok (.iload_n 1, 1)) rfl
theorem zf_zm_140_17 (env : List (Nat × Nat)) : zC9 140 zm_140 env (87, 66, 131, 133, 21) := zi_call (by decide +kernel) (zr_V (i := 250) (n := 1) (q := ("TransportPairModel$Streams", zF_19, 56)) zX_ok rfl (zgood_131) (by decide +kernel) (zw_T zwd_221) (zw_T zwd_690) (zw_T zwd_691) rfl (zw_T (zt_sel (y := ⟨"TransportPairModel$Streams","received","(I)J"⟩) (n := 56) 186 (by decide +kernel))) ⟨by decide +kernel, by decide +kernel, by decide +kernel⟩ rfl (by decide +kernel : decode (zYf 140).2.1 87 = .ok (.invokevirtual 250, 3)))
theorem zf_zm_140_18 (env : List (Nat × Nat)) : zR9 140 env (90, 11, 1, 0, 0) := zi_lret (by decide +kernel : decode (zYf 140).2.1 90 = .ok (.lreturn, 1)) rfl
theorem zf_zm_140_19 (env : List (Nat × Nat)) : zI9 140 zY_140 zm_140 env (91, 0, 0, 0, 0) 92 := zi_aload_n (by decide +kernel : decode zY_140.2.1 91 = .ok (.aload_n 0, 1)) rfl
theorem zf_zm_140_20 (env : List (Nat × Nat)) : zI9 140 zY_140 zm_140 env (92, 63, 1, 0, 0) 93 := zi_iload_n (by decide +kernel : decode zY_140.2.1 92 = .ok (.iload_n 1, 1)) rfl
theorem zf_zm_140_21 (env : List (Nat × Nat)) : zC9 140 zm_140 env (93, 66, 132, 133, 21) := zi_call (by decide +kernel) (zr_V (i := 210) (n := 1) (q := ("TransportPairModel$Streams", zF_19, 56)) zX_ok rfl (zgood_132) (by decide +kernel) (zw_T zwd_221) (zw_T zwd_692) (zw_T zwd_693) rfl (zw_T (zt_sel (y := ⟨"TransportPairModel$Streams","consumed","(I)J"⟩) (n := 56) 123 (by decide +kernel))) ⟨by decide +kernel, by decide +kernel, by decide +kernel⟩ rfl (by decide +kernel : decode (zYf 140).2.1 93 = .ok (.invokevirtual 210, 3)))
theorem zf_zm_140_22 (env : List (Nat × Nat)) : zR9 140 env (96, 11, 1, 0, 0) := zi_lret (by decide +kernel : decode (zYf 140).2.1 96 = .ok (.lreturn, 1)) rfl
theorem zf_zm_140_23 (env : List (Nat × Nat)) : zI9 140 zY_140 zm_140 env (97, 0, 0, 0, 0) 98 := zi_aload_n (by decide +kernel : decode zY_140.2.1 97 = .ok (.aload_n 0, 1)) rfl
theorem zf_zm_140_24 (env : List (Nat × Nat)) : zI9 140 zY_140 zm_140 env (98, 1, 19, 9, 2) 101 := zi_getf (i := 41) (N := 56) (C := "TransportPairModel$Streams") (ref := "TransportPairModel$Streams") (T := zF_19) (by decide +kernel : decode zY_140.2.1 98 = .ok (.getfield 41, 3)) rfl zuw_19 (by decide) (zw_T zwd_46) rfl
theorem zf_zm_140_25 (env : List (Nat × Nat)) : zI9 140 zY_140 zm_140 env (101, 63, 1, 0, 0) 102 := zi_iload_n (by decide +kernel : decode zY_140.2.1 101 = .ok (.iload_n 1, 1)) rfl
theorem zf_zm_140_26 (env : List (Nat × Nat)) : zI9 140 zY_140 zm_140 env (102, 26, 0, 0, 0) 103 := zi_lald (by decide +kernel : decode zY_140.2.1 102 = .ok (.laload, 1))
theorem zf_zm_140_27 (env : List (Nat × Nat)) : zR9 140 env (103, 11, 1, 0, 0) := zi_lret (by decide +kernel : decode (zYf 140).2.1 103 = .ok (.lreturn, 1)) rfl
theorem zf_zm_140_28 (env : List (Nat × Nat)) : zI9 140 zY_140 zm_140 env (104, 0, 0, 0, 0) 105 := zi_aload_n (by decide +kernel : decode zY_140.2.1 104 = .ok (.aload_n 0, 1)) rfl
theorem zf_zm_140_29 (env : List (Nat × Nat)) : zI9 140 zY_140 zm_140 env (105, 1, 19, 4, 2) 108 := zi_getf (i := 24) (N := 56) (C := "TransportPairModel$Streams") (ref := "TransportPairModel$Streams") (T := zF_19) (by decide +kernel : decode zY_140.2.1 105 = .ok (.getfield 24, 3)) rfl zuw_19 (by decide) (zw_T zwd_40) rfl
theorem zf_zm_140_30 (env : List (Nat × Nat)) : zI9 140 zY_140 zm_140 env (108, 2, 2, 0, 0) 109 := zi_iconst (by decide +kernel : decode zY_140.2.1 108 = .ok (.iconst 2, 1)) (by decide +kernel)
theorem zf_zm_140_31 (env : List (Nat × Nat)) : zI9 140 zY_140 zm_140 env (109, 63, 1, 0, 0) 110 := zi_iload_n (by decide +kernel : decode zY_140.2.1 109 = .ok (.iload_n 1, 1)) rfl
theorem zf_zm_140_32 (env : List (Nat × Nat)) : zI9 140 zY_140 zm_140 env (110, 36, 0, 0, 0) 111 := zi_imul (by decide +kernel : decode zY_140.2.1 110 = .ok (.imul, 1))
theorem zf_zm_140_33 (env : List (Nat × Nat)) : zI9 140 zY_140 zm_140 env (111, 63, 2, 0, 0) 112 := zi_iload_n (by decide +kernel : decode zY_140.2.1 111 = .ok (.iload_n 2, 1)) rfl
theorem zf_zm_140_34 (env : List (Nat × Nat)) : zI9 140 zY_140 zm_140 env (112, 9, 0, 0, 0) 113 := zi_iadd (by decide +kernel : decode zY_140.2.1 112 = .ok (.iadd, 1))
theorem zf_zm_140_35 (env : List (Nat × Nat)) : zI9 140 zY_140 zm_140 env (113, 2, 5, 0, 0) 114 := zi_iconst (by decide +kernel : decode zY_140.2.1 113 = .ok (.iconst 5, 1)) (by decide +kernel)
theorem zf_zm_140_36 (env : List (Nat × Nat)) : zI9 140 zY_140 zm_140 env (114, 37, 0, 0, 0) 115 := zi_isub (by decide +kernel : decode zY_140.2.1 114 = .ok (.isub, 1))
theorem zf_zm_140_37 (env : List (Nat × Nat)) : zI9 140 zY_140 zm_140 env (115, 8, 0, 0, 0) 116 := zi_iald (zscr_ok (by decide +kernel : decode zY_140.2.1 115 = .ok (.iaload, 1))) (by decide +kernel : decode zY_140.2.1 115 = .ok (.iaload, 1))
theorem zf_zm_140_38 (env : List (Nat × Nat)) : zI9 140 zY_140 zm_140 env (116, 16, 0, 0, 0) 117 := zi_i2l (by decide +kernel : decode zY_140.2.1 116 = .ok (.i2l, 1))
theorem zf_zm_140_39 (env : List (Nat × Nat)) : zR9 140 env (117, 11, 1, 0, 0) := zi_lret (by decide +kernel : decode (zYf 140).2.1 117 = .ok (.lreturn, 1)) rfl
theorem zf_zm_140_40 (env : List (Nat × Nat)) : zI9 140 zY_140 zm_140 env (118, 0, 0, 0, 0) 119 := zi_aload_n (by decide +kernel : decode zY_140.2.1 118 = .ok (.aload_n 0, 1)) rfl
theorem zf_zm_140_41 (env : List (Nat × Nat)) : zI9 140 zY_140 zm_140 env (119, 1, 19, 2, 2) 122 := zi_getf (i := 18) (N := 56) (C := "TransportPairModel$Streams") (ref := "TransportPairModel$Streams") (T := zF_19) (by decide +kernel : decode zY_140.2.1 119 = .ok (.getfield 18, 3)) rfl zuw_19 (by decide) (zw_T zwd_38) rfl
theorem zf_zm_140_42 (env : List (Nat × Nat)) : zI9 140 zY_140 zm_140 env (122, 2, 3, 0, 0) 123 := zi_iconst (by decide +kernel : decode zY_140.2.1 122 = .ok (.iconst 3, 1)) (by decide +kernel)
theorem zf_zm_140_43 (env : List (Nat × Nat)) : zI9 140 zY_140 zm_140 env (123, 63, 1, 0, 0) 124 := zi_iload_n (by decide +kernel : decode zY_140.2.1 123 = .ok (.iload_n 1, 1)) rfl
theorem zf_zm_140_44 (env : List (Nat × Nat)) : zI9 140 zY_140 zm_140 env (124, 36, 0, 0, 0) 125 := zi_imul (by decide +kernel : decode zY_140.2.1 124 = .ok (.imul, 1))
theorem zf_zm_140_45 (env : List (Nat × Nat)) : zI9 140 zY_140 zm_140 env (125, 63, 2, 0, 0) 126 := zi_iload_n (by decide +kernel : decode zY_140.2.1 125 = .ok (.iload_n 2, 1)) rfl
theorem zf_zm_140_46 (env : List (Nat × Nat)) : zI9 140 zY_140 zm_140 env (126, 9, 0, 0, 0) 127 := zi_iadd (by decide +kernel : decode zY_140.2.1 126 = .ok (.iadd, 1))
theorem zf_zm_140_47 (env : List (Nat × Nat)) : zI9 140 zY_140 zm_140 env (127, 2, 6, 0, 0) 129 := zi_bipush (by decide +kernel : decode zY_140.2.1 127 = .ok (.bipush 6, 2)) (by decide +kernel)
theorem zf_zm_140_48 (env : List (Nat × Nat)) : zI9 140 zY_140 zm_140 env (129, 37, 0, 0, 0) 130 := zi_isub (by decide +kernel : decode zY_140.2.1 129 = .ok (.isub, 1))
theorem zf_zm_140_49 (env : List (Nat × Nat)) : zI9 140 zY_140 zm_140 env (130, 26, 0, 0, 0) 131 := zi_lald (by decide +kernel : decode zY_140.2.1 130 = .ok (.laload, 1))
theorem zf_zm_140_50 (env : List (Nat × Nat)) : zR9 140 env (131, 11, 1, 0, 0) := zi_lret (by decide +kernel : decode (zYf 140).2.1 131 = .ok (.lreturn, 1)) rfl
theorem zf_zm_140_51 (env : List (Nat × Nat)) : zI9 140 zY_140 zm_140 env (132, 0, 0, 0, 0) 133 := zi_aload_n (by decide +kernel : decode zY_140.2.1 132 = .ok (.aload_n 0, 1)) rfl
theorem zf_zm_140_52 (env : List (Nat × Nat)) : zI9 140 zY_140 zm_140 env (133, 1, 19, 5, 2) 136 := zi_getf (i := 28) (N := 56) (C := "TransportPairModel$Streams") (ref := "TransportPairModel$Streams") (T := zF_19) (by decide +kernel : decode zY_140.2.1 133 = .ok (.getfield 28, 3)) rfl zuw_19 (by decide) (zw_T zwd_41) rfl
theorem zf_zm_140_53 (env : List (Nat × Nat)) : zI9 140 zY_140 zm_140 env (136, 2, 2, 0, 0) 137 := zi_iconst (by decide +kernel : decode zY_140.2.1 136 = .ok (.iconst 2, 1)) (by decide +kernel)
theorem zf_zm_140_54 (env : List (Nat × Nat)) : zI9 140 zY_140 zm_140 env (137, 63, 1, 0, 0) 138 := zi_iload_n (by decide +kernel : decode zY_140.2.1 137 = .ok (.iload_n 1, 1)) rfl
theorem zf_zm_140_55 (env : List (Nat × Nat)) : zI9 140 zY_140 zm_140 env (138, 36, 0, 0, 0) 139 := zi_imul (by decide +kernel : decode zY_140.2.1 138 = .ok (.imul, 1))
theorem zf_zm_140_56 (env : List (Nat × Nat)) : zI9 140 zY_140 zm_140 env (139, 63, 2, 0, 0) 140 := zi_iload_n (by decide +kernel : decode zY_140.2.1 139 = .ok (.iload_n 2, 1)) rfl
theorem zf_zm_140_57 (env : List (Nat × Nat)) : zI9 140 zY_140 zm_140 env (140, 9, 0, 0, 0) 141 := zi_iadd (by decide +kernel : decode zY_140.2.1 140 = .ok (.iadd, 1))
theorem zf_zm_140_58 (env : List (Nat × Nat)) : zI9 140 zY_140 zm_140 env (141, 2, 9, 0, 0) 143 := zi_bipush (by decide +kernel : decode zY_140.2.1 141 = .ok (.bipush 9, 2)) (by decide +kernel)
theorem zf_zm_140_59 (env : List (Nat × Nat)) : zI9 140 zY_140 zm_140 env (143, 37, 0, 0, 0) 144 := zi_isub (by decide +kernel : decode zY_140.2.1 143 = .ok (.isub, 1))
theorem zf_zm_140_60 (env : List (Nat × Nat)) : zI9 140 zY_140 zm_140 env (144, 8, 0, 0, 0) 145 := zi_iald (zscr_ok (by decide +kernel : decode zY_140.2.1 144 = .ok (.iaload, 1))) (by decide +kernel : decode zY_140.2.1 144 = .ok (.iaload, 1))
theorem zf_zm_140_61 (env : List (Nat × Nat)) : zI9 140 zY_140 zm_140 env (145, 16, 0, 0, 0) 146 := zi_i2l (by decide +kernel : decode zY_140.2.1 145 = .ok (.i2l, 1))
theorem zf_zm_140_62 (env : List (Nat × Nat)) : zR9 140 env (146, 11, 1, 0, 0) := zi_lret (by decide +kernel : decode (zYf 140).2.1 146 = .ok (.lreturn, 1)) rfl
theorem zf_zm_140_63 (env : List (Nat × Nat)) : zI9 140 zY_140 zm_140 env (147, 0, 0, 0, 0) 148 := zi_aload_n (by decide +kernel : decode zY_140.2.1 147 = .ok (.aload_n 0, 1)) rfl
theorem zf_zm_140_64 (env : List (Nat × Nat)) : zI9 140 zY_140 zm_140 env (148, 1, 19, 6, 2) 151 := zi_getf (i := 31) (N := 56) (C := "TransportPairModel$Streams") (ref := "TransportPairModel$Streams") (T := zF_19) (by decide +kernel : decode zY_140.2.1 148 = .ok (.getfield 31, 3)) rfl zuw_19 (by decide) (zw_T zwd_42) rfl
theorem zf_zm_140_65 (env : List (Nat × Nat)) : zI9 140 zY_140 zm_140 env (151, 2, 2, 0, 0) 152 := zi_iconst (by decide +kernel : decode zY_140.2.1 151 = .ok (.iconst 2, 1)) (by decide +kernel)
theorem zf_zm_140_66 (env : List (Nat × Nat)) : zI9 140 zY_140 zm_140 env (152, 63, 1, 0, 0) 153 := zi_iload_n (by decide +kernel : decode zY_140.2.1 152 = .ok (.iload_n 1, 1)) rfl
theorem zf_zm_140_67 (env : List (Nat × Nat)) : zI9 140 zY_140 zm_140 env (153, 36, 0, 0, 0) 154 := zi_imul (by decide +kernel : decode zY_140.2.1 153 = .ok (.imul, 1))
theorem zf_zm_140_68 (env : List (Nat × Nat)) : zI9 140 zY_140 zm_140 env (154, 63, 2, 0, 0) 155 := zi_iload_n (by decide +kernel : decode zY_140.2.1 154 = .ok (.iload_n 2, 1)) rfl
theorem zf_zm_140_69 (env : List (Nat × Nat)) : zI9 140 zY_140 zm_140 env (155, 9, 0, 0, 0) 156 := zi_iadd (by decide +kernel : decode zY_140.2.1 155 = .ok (.iadd, 1))
theorem zf_zm_140_70 (env : List (Nat × Nat)) : zI9 140 zY_140 zm_140 env (156, 2, 11, 0, 0) 158 := zi_bipush (by decide +kernel : decode zY_140.2.1 156 = .ok (.bipush 11, 2)) (by decide +kernel)
theorem zf_zm_140_71 (env : List (Nat × Nat)) : zI9 140 zY_140 zm_140 env (158, 37, 0, 0, 0) 159 := zi_isub (by decide +kernel : decode zY_140.2.1 158 = .ok (.isub, 1))
theorem zf_zm_140_72 (env : List (Nat × Nat)) : zI9 140 zY_140 zm_140 env (159, 8, 0, 0, 0) 160 := zi_iald (zscr_ok (by decide +kernel : decode zY_140.2.1 159 = .ok (.iaload, 1))) (by decide +kernel : decode zY_140.2.1 159 = .ok (.iaload, 1))
theorem zf_zm_140_73 (env : List (Nat × Nat)) : zI9 140 zY_140 zm_140 env (160, 16, 0, 0, 0) 161 := zi_i2l (by decide +kernel : decode zY_140.2.1 160 = .ok (.i2l, 1))
theorem zf_zm_140_74 (env : List (Nat × Nat)) : zR9 140 env (161, 11, 1, 0, 0) := zi_lret (by decide +kernel : decode (zYf 140).2.1 161 = .ok (.lreturn, 1)) rfl
theorem zf_zm_140_75 (env : List (Nat × Nat)) : zI9 140 zY_140 zm_140 env (162, 0, 0, 0, 0) 163 := zi_aload_n (by decide +kernel : decode zY_140.2.1 162 = .ok (.aload_n 0, 1)) rfl
theorem zf_zm_140_76 (env : List (Nat × Nat)) : zI9 140 zY_140 zm_140 env (163, 1, 19, 40, 2) 166 := zi_getf (i := 134) (N := 56) (C := "TransportPairModel$Streams") (ref := "TransportPairModel$Streams") (T := zF_19) (by decide +kernel : decode zY_140.2.1 163 = .ok (.getfield 134, 3)) rfl zuw_19 (by decide) (zw_T zwd_77) rfl
theorem zf_zm_140_77 (env : List (Nat × Nat)) : zI9 140 zY_140 zm_140 env (166, 63, 1, 0, 0) 167 := zi_iload_n (by decide +kernel : decode zY_140.2.1 166 = .ok (.iload_n 1, 1)) rfl
theorem zf_zm_140_78 (env : List (Nat × Nat)) : zI9 140 zY_140 zm_140 env (167, 8, 0, 0, 0) 168 := zi_iald (zscr_ok (by decide +kernel : decode zY_140.2.1 167 = .ok (.iaload, 1))) (by decide +kernel : decode zY_140.2.1 167 = .ok (.iaload, 1))
theorem zf_zm_140_79 (env : List (Nat × Nat)) : zI9 140 zY_140 zm_140 env (168, 16, 0, 0, 0) 169 := zi_i2l (by decide +kernel : decode zY_140.2.1 168 = .ok (.i2l, 1))
theorem zf_zm_140_80 (env : List (Nat × Nat)) : zR9 140 env (169, 11, 1, 0, 0) := zi_lret (by decide +kernel : decode (zYf 140).2.1 169 = .ok (.lreturn, 1)) rfl
set_option maxRecDepth 100000 in
theorem zc_zm_140 (env : List (Nat × Nat)) : zcode zX (z_QF zEX zcl zft) (z_zm zEX zX zWL zcl zft zYf) zYf zW zET zcl zft (zGv env) 140 zm_140 zm_140.1 := ⟨Or.inl ⟨1, zf_zm_140_0 env, zpc_c⟩,
  Or.inl ⟨68, zf_zm_140_1 env, zpc_c⟩,
  Or.inl ⟨69, zf_zm_140_2 env, zpc_c⟩,
  Or.inl ⟨72, zf_zm_140_3 env, zpc_c⟩,
  Or.inl ⟨73, zf_zm_140_4 env, zpc_c⟩,
  Or.inl ⟨74, zf_zm_140_5 env, zpc_c⟩,
  Or.inl ⟨75, zf_zm_140_6 env, zpc_c⟩,
  Or.inr (Or.inl (zf_zm_140_7 env)),
  Or.inl ⟨77, zf_zm_140_8 env, zpc_c⟩,
  Or.inl ⟨80, zf_zm_140_9 env, zpc_c⟩,
  Or.inl ⟨81, zf_zm_140_10 env, zpc_c⟩,
  Or.inl ⟨82, zf_zm_140_11 env, zpc_c⟩,
  Or.inl ⟨83, zf_zm_140_12 env, zpc_c⟩,
  Or.inl ⟨84, zf_zm_140_13 env, zpc_c⟩,
  Or.inr (Or.inl (zf_zm_140_14 env)),
  Or.inl ⟨86, zf_zm_140_15 env, zpc_c⟩,
  Or.inl ⟨87, zf_zm_140_16 env, zpc_c⟩,
  Or.inr (Or.inr (Or.inl ⟨zf_zm_140_17 env, zpc_c⟩)),
  Or.inr (Or.inl (zf_zm_140_18 env)),
  Or.inl ⟨92, zf_zm_140_19 env, zpc_c⟩,
  Or.inl ⟨93, zf_zm_140_20 env, zpc_c⟩,
  Or.inr (Or.inr (Or.inl ⟨zf_zm_140_21 env, zpc_c⟩)),
  Or.inr (Or.inl (zf_zm_140_22 env)),
  Or.inl ⟨98, zf_zm_140_23 env, zpc_c⟩,
  Or.inl ⟨101, zf_zm_140_24 env, zpc_c⟩,
  Or.inl ⟨102, zf_zm_140_25 env, zpc_c⟩,
  Or.inl ⟨103, zf_zm_140_26 env, zpc_c⟩,
  Or.inr (Or.inl (zf_zm_140_27 env)),
  Or.inl ⟨105, zf_zm_140_28 env, zpc_c⟩,
  Or.inl ⟨108, zf_zm_140_29 env, zpc_c⟩,
  Or.inl ⟨109, zf_zm_140_30 env, zpc_c⟩,
  Or.inl ⟨110, zf_zm_140_31 env, zpc_c⟩,
  Or.inl ⟨111, zf_zm_140_32 env, zpc_c⟩,
  Or.inl ⟨112, zf_zm_140_33 env, zpc_c⟩,
  Or.inl ⟨113, zf_zm_140_34 env, zpc_c⟩,
  Or.inl ⟨114, zf_zm_140_35 env, zpc_c⟩,
  Or.inl ⟨115, zf_zm_140_36 env, zpc_c⟩,
  Or.inl ⟨116, zf_zm_140_37 env, zpc_c⟩,
  Or.inl ⟨117, zf_zm_140_38 env, zpc_c⟩,
  Or.inr (Or.inl (zf_zm_140_39 env)),
  Or.inl ⟨119, zf_zm_140_40 env, zpc_c⟩,
  Or.inl ⟨122, zf_zm_140_41 env, zpc_c⟩,
  Or.inl ⟨123, zf_zm_140_42 env, zpc_c⟩,
  Or.inl ⟨124, zf_zm_140_43 env, zpc_c⟩,
  Or.inl ⟨125, zf_zm_140_44 env, zpc_c⟩,
  Or.inl ⟨126, zf_zm_140_45 env, zpc_c⟩,
  Or.inl ⟨127, zf_zm_140_46 env, zpc_c⟩,
  Or.inl ⟨129, zf_zm_140_47 env, zpc_c⟩,
  Or.inl ⟨130, zf_zm_140_48 env, zpc_c⟩,
  Or.inl ⟨131, zf_zm_140_49 env, zpc_c⟩,
  Or.inr (Or.inl (zf_zm_140_50 env)),
  Or.inl ⟨133, zf_zm_140_51 env, zpc_c⟩,
  Or.inl ⟨136, zf_zm_140_52 env, zpc_c⟩,
  Or.inl ⟨137, zf_zm_140_53 env, zpc_c⟩,
  Or.inl ⟨138, zf_zm_140_54 env, zpc_c⟩,
  Or.inl ⟨139, zf_zm_140_55 env, zpc_c⟩,
  Or.inl ⟨140, zf_zm_140_56 env, zpc_c⟩,
  Or.inl ⟨141, zf_zm_140_57 env, zpc_c⟩,
  Or.inl ⟨143, zf_zm_140_58 env, zpc_c⟩,
  Or.inl ⟨144, zf_zm_140_59 env, zpc_c⟩,
  Or.inl ⟨145, zf_zm_140_60 env, zpc_c⟩,
  Or.inl ⟨146, zf_zm_140_61 env, zpc_c⟩,
  Or.inr (Or.inl (zf_zm_140_62 env)),
  Or.inl ⟨148, zf_zm_140_63 env, zpc_c⟩,
  Or.inl ⟨151, zf_zm_140_64 env, zpc_c⟩,
  Or.inl ⟨152, zf_zm_140_65 env, zpc_c⟩,
  Or.inl ⟨153, zf_zm_140_66 env, zpc_c⟩,
  Or.inl ⟨154, zf_zm_140_67 env, zpc_c⟩,
  Or.inl ⟨155, zf_zm_140_68 env, zpc_c⟩,
  Or.inl ⟨156, zf_zm_140_69 env, zpc_c⟩,
  Or.inl ⟨158, zf_zm_140_70 env, zpc_c⟩,
  Or.inl ⟨159, zf_zm_140_71 env, zpc_c⟩,
  Or.inl ⟨160, zf_zm_140_72 env, zpc_c⟩,
  Or.inl ⟨161, zf_zm_140_73 env, zpc_c⟩,
  Or.inr (Or.inl (zf_zm_140_74 env)),
  Or.inl ⟨163, zf_zm_140_75 env, zpc_c⟩,
  Or.inl ⟨166, zf_zm_140_76 env, zpc_c⟩,
  Or.inl ⟨167, zf_zm_140_77 env, zpc_c⟩,
  Or.inl ⟨168, zf_zm_140_78 env, zpc_c⟩,
  Or.inl ⟨169, zf_zm_140_79 env, zpc_c⟩,
  Or.inr (Or.inl (zf_zm_140_80 env)), trivial⟩
theorem zf_zm_141_0 (env : List (Nat × Nat)) : zI9 141 zY_141 zm_141 env (0, 0, 0, 0, 0) 1 := zi_aload_n (by decide +kernel : decode zY_141.2.1 0 = .ok (.aload_n 0, 1)) rfl
theorem zf_zm_141_1 (env : List (Nat × Nat)) : zI9 141 zY_141 zm_141 env (1, 60, 0, 0, 0) 4 := zi_obj (i := 3) (by decide +kernel : decode zY_141.2.1 1 = .ok (.invokespecial 3, 3)) (zw_T zwd_694) (zw_T zwd_11) (zw_T zwd_12)
theorem zf_zm_141_2 (env : List (Nat × Nat)) : zI9 141 zY_141 zm_141 env (4, 0, 0, 0, 0) 5 := zi_aload_n (by decide +kernel : decode zY_141.2.1 4 = .ok (.aload_n 0, 1)) rfl
theorem zf_zm_141_3 (env : List (Nat × Nat)) : zI9 141 zY_141 zm_141 env (5, 2, 4, 0, 0) 6 := zi_iconst (by decide +kernel : decode zY_141.2.1 5 = .ok (.iconst 4, 1)) (by decide +kernel)
theorem zf_zm_141_4 (env : List (Nat × Nat)) : zI9 141 zY_141 zm_141 env (6, 12, 1, 3, 0) 8 := zi_newL (by decide +kernel : decode zY_141.2.1 6 = .ok (.newarray .long, 2)) (zw_T zwd_13) rfl rfl
theorem zf_zm_141_5 (env : List (Nat × Nat)) : zI9 141 zY_141 zm_141 env (8, 4, 20, 5, 2) 11 := zi_putfF (i := 9) (N := 10) (C := "TransportPairModel$Wire") (ref := "TransportPairModel$Wire") (T := zF_20) (by decide +kernel : decode zY_141.2.1 8 = .ok (.putfield 9, 3)) rfl zuw_20 zFt_20 zFn_20 (by decide) (zw_T zwd_695) rfl rfl rfl rfl (ty := .array .long) (by decide +kernel) (Or.inr ⟨_, rfl⟩)
theorem zf_zm_141_6 (env : List (Nat × Nat)) : zR9 141 env (11, 21, 0, 0, 0) := zi_vret (by decide +kernel : decode (zYf 141).2.1 11 = .ok (.return_, 1)) rfl
set_option maxRecDepth 100000 in
theorem zc_zm_141 (env : List (Nat × Nat)) : zcode zX (z_QF zEX zcl zft) (z_zm zEX zX zWL zcl zft zYf) zYf zW zET zcl zft (zGv env) 141 zm_141 zm_141.1 := ⟨Or.inl ⟨1, zf_zm_141_0 env, zpc_c⟩,
  Or.inl ⟨4, zf_zm_141_1 env, zpc_c⟩,
  Or.inl ⟨5, zf_zm_141_2 env, zpc_c⟩,
  Or.inl ⟨6, zf_zm_141_3 env, zpc_c⟩,
  Or.inl ⟨8, zf_zm_141_4 env, zpc_c⟩,
  Or.inl ⟨11, zf_zm_141_5 env, zpc_c⟩,
  Or.inr (Or.inl (zf_zm_141_6 env)), trivial⟩
theorem zf_zm_142_0 (env : List (Nat × Nat)) : zI9 142 zY_142 zm_142 env (0, 0, 6, 0, 0) 2 := zi_aload (by decide +kernel : decode zY_142.2.1 0 = .ok (.aload 6, 2))
theorem zf_zm_142_1 (env : List (Nat × Nat)) : zI9 142 zY_142 zm_142 env (2, 2, 0, 0, 0) 3 := zi_iconst (by decide +kernel : decode zY_142.2.1 2 = .ok (.iconst 0, 1)) (by decide +kernel)
theorem zf_zm_142_2 (env : List (Nat × Nat)) : zI9 142 zY_142 zm_142 env (3, 0, 0, 0, 0) 4 := zi_aload_n (by decide +kernel : decode zY_142.2.1 3 = .ok (.aload_n 0, 1)) rfl
theorem zf_zm_142_3 (env : List (Nat × Nat)) : zI9 142 zY_142 zm_142 env (4, 63, 1, 0, 0) 5 := zi_iload_n (by decide +kernel : decode zY_142.2.1 4 = .ok (.iload_n 1, 1)) rfl
theorem zf_zm_142_4 (env : List (Nat × Nat)) : zI9 142 zY_142 zm_142 env (5, 63, 2, 0, 0) 6 := zi_iload_n (by decide +kernel : decode zY_142.2.1 5 = .ok (.iload_n 2, 1)) rfl
theorem zf_zm_142_5 (env : List (Nat × Nat)) : zI9 142 zY_142 zm_142 env (6, 63, 3, 0, 0) 7 := zi_iload_n (by decide +kernel : decode zY_142.2.1 6 = .ok (.iload_n 3, 1)) rfl
theorem zf_zm_142_6 (env : List (Nat × Nat)) : zI9 142 zY_142 zm_142 env (7, 63, 4, 0, 0) 9 := zi_iload (by decide +kernel : decode zY_142.2.1 7 = .ok (.iload 4, 2))
theorem zf_zm_142_7 (env : List (Nat × Nat)) : zI9 142 zY_142 zm_142 env (9, 63, 5, 0, 0) 11 := zi_iload (by decide +kernel : decode zY_142.2.1 9 = .ok (.iload 5, 2))
theorem zf_zm_142_8 (env : List (Nat × Nat)) : zC9 142 zm_142 env (11, 66, 8, 390, 2) := zi_call (by decide +kernel) (zr_V (i := 7) (n := 5) (q := ("TransportPair", zF_0, 8)) zX_ok rfl (zgood_8) (by decide +kernel) (zw_T zwd_124) (zw_T zwd_696) (zw_T zwd_697) rfl (zw_T zwd_698) ⟨by decide +kernel, by decide +kernel, by decide +kernel⟩ rfl (by decide +kernel : decode (zYf 142).2.1 11 = .ok (.invokevirtual 7, 3)))
theorem zf_zm_142_9 (env : List (Nat × Nat)) : zI9 142 zY_142 zm_142 env (14, 16, 0, 0, 0) 15 := zi_i2l (by decide +kernel : decode zY_142.2.1 14 = .ok (.i2l, 1))
theorem zf_zm_142_10 (env : List (Nat × Nat)) : zI9 142 zY_142 zm_142 env (15, 18, 0, 0, 0) 16 := zi_last (by decide +kernel : decode zY_142.2.1 15 = .ok (.lastore, 1))
theorem zf_zm_142_11 (env : List (Nat × Nat)) : zI9 142 zY_142 zm_142 env (16, 7, 13, 0, 0) 19 := zi_goto (off := 7) (t := 23) (by decide +kernel : decode zY_142.2.1 16 = .ok (.goto 7, 3)) (by decide) (by decide +kernel)
theorem zf_zm_142_12 (env : List (Nat × Nat)) : zI9 142 zY_142 zm_142 env (19, 99, 0, 0, 0) 23 := zi_none
theorem zf_zm_142_13 (env : List (Nat × Nat)) : zI9 142 zY_142 zm_142 env (23, 2, 0, 0, 0) 24 := zi_iconst (by decide +kernel : decode zY_142.2.1 23 = .ok (.iconst 0, 1)) (by decide +kernel)
theorem zf_zm_142_14 (env : List (Nat × Nat)) : zR9 142 env (24, 11, 0, 0, 0) := zi_iret (by decide +kernel : decode (zYf 142).2.1 24 = .ok (.ireturn, 1)) rfl
set_option maxRecDepth 100000 in
theorem zc_zm_142 (env : List (Nat × Nat)) : zcode zX (z_QF zEX zcl zft) (z_zm zEX zX zWL zcl zft zYf) zYf zW zET zcl zft (zGv env) 142 zm_142 zm_142.1 := ⟨Or.inl ⟨2, zf_zm_142_0 env, zpc_c⟩,
  Or.inl ⟨3, zf_zm_142_1 env, zpc_c⟩,
  Or.inl ⟨4, zf_zm_142_2 env, zpc_c⟩,
  Or.inl ⟨5, zf_zm_142_3 env, zpc_c⟩,
  Or.inl ⟨6, zf_zm_142_4 env, zpc_c⟩,
  Or.inl ⟨7, zf_zm_142_5 env, zpc_c⟩,
  Or.inl ⟨9, zf_zm_142_6 env, zpc_c⟩,
  Or.inl ⟨11, zf_zm_142_7 env, zpc_c⟩,
  Or.inr (Or.inr (Or.inl ⟨zf_zm_142_8 env, zpc_c⟩)),
  Or.inl ⟨15, zf_zm_142_9 env, zpc_c⟩,
  Or.inl ⟨16, zf_zm_142_10 env, zpc_c⟩,
  Or.inl ⟨19, zf_zm_142_11 env, zpc_c⟩,
  Or.inl ⟨23, zf_zm_142_12 env, zpc_c⟩,
  Or.inl ⟨24, zf_zm_142_13 env, zpc_c⟩,
  Or.inr (Or.inl (zf_zm_142_14 env)), trivial⟩
theorem zf_zm_143_0 (env : List (Nat × Nat)) : zI9 143 zY_143 zm_143 env (0, 0, 2, 0, 0) 1 := zi_aload_n (by decide +kernel : decode zY_143.2.1 0 = .ok (.aload_n 2, 1)) rfl
theorem zf_zm_143_1 (env : List (Nat × Nat)) : zI9 143 zY_143 zm_143 env (1, 2, 0, 0, 0) 2 := zi_iconst (by decide +kernel : decode zY_143.2.1 1 = .ok (.iconst 0, 1)) (by decide +kernel)
theorem zf_zm_143_2 (env : List (Nat × Nat)) : zI9 143 zY_143 zm_143 env (2, 0, 0, 0, 0) 3 := zi_aload_n (by decide +kernel : decode zY_143.2.1 2 = .ok (.aload_n 0, 1)) rfl
theorem zf_zm_143_3 (env : List (Nat × Nat)) : zI9 143 zY_143 zm_143 env (3, 63, 1, 0, 0) 4 := zi_iload_n (by decide +kernel : decode zY_143.2.1 3 = .ok (.iload_n 1, 1)) rfl
theorem zf_zm_143_4 (env : List (Nat × Nat)) : zC9 143 zm_143 env (4, 3, 9, 131, 2) := zi_callT (by decide +kernel) (zr_V (i := 15) (n := 1) (q := ("TransportPair", zF_0, 8)) zX_ok rfl (zgood_9) (by decide +kernel) (zw_T zwd_124) (zw_T zwd_699) (zw_T zwd_700) rfl (zw_T zwd_701) ⟨by decide +kernel, by decide +kernel, by decide +kernel⟩ rfl (by decide +kernel : decode (zYf 143).2.1 4 = .ok (.invokevirtual 15, 3))) (zt_V (i := 15) (n := 1) (q := ("TransportPair", zF_0, 8)) zX_ok zeo_zm_143 zNC_ok rfl (zgood_9) (by decide +kernel) (zw_T zwd_124) (zw_T zwd_699) (zw_T zwd_700) rfl (zw_T zwd_701) ⟨by decide +kernel, by decide +kernel, by decide +kernel⟩ rfl (by decide +kernel : decode (zYf 143).2.1 4 = .ok (.invokevirtual 15, 3)))
theorem zf_zm_143_5 (env : List (Nat × Nat)) : zI9 143 zY_143 zm_143 env (7, 16, 0, 0, 0) 8 := zi_i2l (by decide +kernel : decode zY_143.2.1 7 = .ok (.i2l, 1))
theorem zf_zm_143_6 (env : List (Nat × Nat)) : zI9 143 zY_143 zm_143 env (8, 18, 0, 0, 0) 9 := zi_last (by decide +kernel : decode zY_143.2.1 8 = .ok (.lastore, 1))
theorem zf_zm_143_7 (env : List (Nat × Nat)) : zI9 143 zY_143 zm_143 env (9, 7, 11, 0, 0) 12 := zi_goto (off := 6) (t := 15) (by decide +kernel : decode zY_143.2.1 9 = .ok (.goto 6, 3)) (by decide) (by decide +kernel)
theorem zf_zm_143_8 (env : List (Nat × Nat)) : zI9 143 zY_143 zm_143 env (12, 65, 3, 0, 0) 13 := zi_astore_n (by decide +kernel : decode zY_143.2.1 12 = .ok (.astore_n 3, 1)) rfl (by decide)
theorem zf_zm_143_9 (env : List (Nat × Nat)) : zI9 143 zY_143 zm_143 env (13, 2, 1, 0, 0) 14 := zi_iconst (by decide +kernel : decode zY_143.2.1 13 = .ok (.iconst 1, 1)) (by decide +kernel)
theorem zf_zm_143_10 (env : List (Nat × Nat)) : zR9 143 env (14, 11, 0, 0, 0) := zi_iret (by decide +kernel : decode (zYf 143).2.1 14 = .ok (.ireturn, 1)) rfl
theorem zf_zm_143_11 (env : List (Nat × Nat)) : zI9 143 zY_143 zm_143 env (15, 2, 0, 0, 0) 16 := zi_iconst (by decide +kernel : decode zY_143.2.1 15 = .ok (.iconst 0, 1)) (by decide +kernel)
theorem zf_zm_143_12 (env : List (Nat × Nat)) : zR9 143 env (16, 11, 0, 0, 0) := zi_iret (by decide +kernel : decode (zYf 143).2.1 16 = .ok (.ireturn, 1)) rfl
set_option maxRecDepth 100000 in
theorem zc_zm_143 (env : List (Nat × Nat)) : zcode zX (z_QF zEX zcl zft) (z_zm zEX zX zWL zcl zft zYf) zYf zW zET zcl zft (zGv env) 143 zm_143 zm_143.1 := ⟨Or.inl ⟨1, zf_zm_143_0 env, zpc_c⟩,
  Or.inl ⟨2, zf_zm_143_1 env, zpc_c⟩,
  Or.inl ⟨3, zf_zm_143_2 env, zpc_c⟩,
  Or.inl ⟨4, zf_zm_143_3 env, zpc_c⟩,
  Or.inr (Or.inr (Or.inl ⟨zf_zm_143_4 env, zpc_c⟩)),
  Or.inl ⟨8, zf_zm_143_5 env, zpc_c⟩,
  Or.inl ⟨9, zf_zm_143_6 env, zpc_c⟩,
  Or.inl ⟨12, zf_zm_143_7 env, zpc_c⟩,
  Or.inl ⟨13, zf_zm_143_8 env, zpc_c⟩,
  Or.inl ⟨14, zf_zm_143_9 env, zpc_c⟩,
  Or.inr (Or.inl (zf_zm_143_10 env)),
  Or.inl ⟨16, zf_zm_143_11 env, zpc_c⟩,
  Or.inr (Or.inl (zf_zm_143_12 env)), trivial⟩
theorem zf_zm_144_0 (env : List (Nat × Nat)) : zI9 144 zY_144 zm_144 env (0, 0, 0, 0, 0) 1 := zi_aload_n (by decide +kernel : decode zY_144.2.1 0 = .ok (.aload_n 0, 1)) rfl
theorem zf_zm_144_1 (env : List (Nat × Nat)) : zI9 144 zY_144 zm_144 env (1, 63, 1, 0, 0) 2 := zi_iload_n (by decide +kernel : decode zY_144.2.1 1 = .ok (.iload_n 1, 1)) rfl
theorem zf_zm_144_2 (env : List (Nat × Nat)) : zC9 144 zm_144 env (2, 3, 10, 131, 2) := zi_callT (by decide +kernel) (zr_V (i := 21) (n := 1) (q := ("TransportPair", zF_0, 8)) zX_ok rfl (zgood_10) (by decide +kernel) (zw_T zwd_124) (zw_T zwd_702) (zw_T zwd_703) rfl (zw_T zwd_704) ⟨by decide +kernel, by decide +kernel, by decide +kernel⟩ rfl (by decide +kernel : decode (zYf 144).2.1 2 = .ok (.invokevirtual 21, 3))) (zt_V (i := 21) (n := 1) (q := ("TransportPair", zF_0, 8)) zX_ok zeo_zm_144 zNC_ok rfl (zgood_10) (by decide +kernel) (zw_T zwd_124) (zw_T zwd_702) (zw_T zwd_703) rfl (zw_T zwd_704) ⟨by decide +kernel, by decide +kernel, by decide +kernel⟩ rfl (by decide +kernel : decode (zYf 144).2.1 2 = .ok (.invokevirtual 21, 3)))
theorem zf_zm_144_3 (env : List (Nat × Nat)) : zI9 144 zY_144 zm_144 env (5, 99, 0, 0, 0) 8 := zi_none
theorem zf_zm_144_4 (env : List (Nat × Nat)) : zI9 144 zY_144 zm_144 env (8, 65, 2, 0, 0) 9 := zi_astore_n (by decide +kernel : decode zY_144.2.1 8 = .ok (.astore_n 2, 1)) rfl (by decide)
theorem zf_zm_144_5 (env : List (Nat × Nat)) : zI9 144 zY_144 zm_144 env (9, 2, 1, 0, 0) 10 := zi_iconst (by decide +kernel : decode zY_144.2.1 9 = .ok (.iconst 1, 1)) (by decide +kernel)
theorem zf_zm_144_6 (env : List (Nat × Nat)) : zR9 144 env (10, 11, 0, 0, 0) := zi_iret (by decide +kernel : decode (zYf 144).2.1 10 = .ok (.ireturn, 1)) rfl
theorem zf_zm_144_7 (env : List (Nat × Nat)) : zI9 144 zY_144 zm_144 env (11, 99, 0, 0, 0) 0 := zi_none
set_option maxRecDepth 100000 in
theorem zc_zm_144 (env : List (Nat × Nat)) : zcode zX (z_QF zEX zcl zft) (z_zm zEX zX zWL zcl zft zYf) zYf zW zET zcl zft (zGv env) 144 zm_144 zm_144.1 := ⟨Or.inl ⟨1, zf_zm_144_0 env, zpc_c⟩,
  Or.inl ⟨2, zf_zm_144_1 env, zpc_c⟩,
  Or.inr (Or.inr (Or.inl ⟨zf_zm_144_2 env, zpc_c⟩)),
  Or.inl ⟨8, zf_zm_144_3 env, zpc_c⟩,
  Or.inl ⟨9, zf_zm_144_4 env, zpc_c⟩,
  Or.inl ⟨10, zf_zm_144_5 env, zpc_c⟩,
  Or.inr (Or.inl (zf_zm_144_6 env)),
  Or.inl ⟨0, zf_zm_144_7 env, zpc_n⟩, trivial⟩
theorem zf_zm_145_0 (env : List (Nat × Nat)) : zI9 145 zY_145 zm_145 env (0, 0, 0, 0, 0) 1 := zi_aload_n (by decide +kernel : decode zY_145.2.1 0 = .ok (.aload_n 0, 1)) rfl
theorem zf_zm_145_1 (env : List (Nat × Nat)) : zI9 145 zY_145 zm_145 env (1, 63, 1, 0, 0) 2 := zi_iload_n (by decide +kernel : decode zY_145.2.1 1 = .ok (.iload_n 1, 1)) rfl
theorem zf_zm_145_2 (env : List (Nat × Nat)) : zC9 145 zm_145 env (2, 3, 11, 131, 2) := zi_callT (by decide +kernel) (zr_V (i := 25) (n := 1) (q := ("TransportPair", zF_0, 8)) zX_ok rfl (zgood_11) (by decide +kernel) (zw_T zwd_124) (zw_T zwd_705) (zw_T zwd_706) rfl (zw_T zwd_707) ⟨by decide +kernel, by decide +kernel, by decide +kernel⟩ rfl (by decide +kernel : decode (zYf 145).2.1 2 = .ok (.invokevirtual 25, 3))) (zt_V (i := 25) (n := 1) (q := ("TransportPair", zF_0, 8)) zX_ok zeo_zm_145 zNC_ok rfl (zgood_11) (by decide +kernel) (zw_T zwd_124) (zw_T zwd_705) (zw_T zwd_706) rfl (zw_T zwd_707) ⟨by decide +kernel, by decide +kernel, by decide +kernel⟩ rfl (by decide +kernel : decode (zYf 145).2.1 2 = .ok (.invokevirtual 25, 3)))
theorem zf_zm_145_3 (env : List (Nat × Nat)) : zI9 145 zY_145 zm_145 env (5, 99, 0, 0, 0) 8 := zi_none
theorem zf_zm_145_4 (env : List (Nat × Nat)) : zI9 145 zY_145 zm_145 env (8, 65, 2, 0, 0) 9 := zi_astore_n (by decide +kernel : decode zY_145.2.1 8 = .ok (.astore_n 2, 1)) rfl (by decide)
theorem zf_zm_145_5 (env : List (Nat × Nat)) : zI9 145 zY_145 zm_145 env (9, 2, 1, 0, 0) 10 := zi_iconst (by decide +kernel : decode zY_145.2.1 9 = .ok (.iconst 1, 1)) (by decide +kernel)
theorem zf_zm_145_6 (env : List (Nat × Nat)) : zR9 145 env (10, 11, 0, 0, 0) := zi_iret (by decide +kernel : decode (zYf 145).2.1 10 = .ok (.ireturn, 1)) rfl
theorem zf_zm_145_7 (env : List (Nat × Nat)) : zI9 145 zY_145 zm_145 env (11, 99, 0, 0, 0) 0 := zi_none
set_option maxRecDepth 100000 in
theorem zc_zm_145 (env : List (Nat × Nat)) : zcode zX (z_QF zEX zcl zft) (z_zm zEX zX zWL zcl zft zYf) zYf zW zET zcl zft (zGv env) 145 zm_145 zm_145.1 := ⟨Or.inl ⟨1, zf_zm_145_0 env, zpc_c⟩,
  Or.inl ⟨2, zf_zm_145_1 env, zpc_c⟩,
  Or.inr (Or.inr (Or.inl ⟨zf_zm_145_2 env, zpc_c⟩)),
  Or.inl ⟨8, zf_zm_145_3 env, zpc_c⟩,
  Or.inl ⟨9, zf_zm_145_4 env, zpc_c⟩,
  Or.inl ⟨10, zf_zm_145_5 env, zpc_c⟩,
  Or.inr (Or.inl (zf_zm_145_6 env)),
  Or.inl ⟨0, zf_zm_145_7 env, zpc_n⟩, trivial⟩
theorem zf_zm_146_0 (env : List (Nat × Nat)) : zI9 146 zY_146 zm_146 env (0, 0, 0, 0, 0) 1 := zi_aload_n (by decide +kernel : decode zY_146.2.1 0 = .ok (.aload_n 0, 1)) rfl
theorem zf_zm_146_1 (env : List (Nat × Nat)) : zI9 146 zY_146 zm_146 env (1, 63, 1, 0, 0) 2 := zi_iload_n (by decide +kernel : decode zY_146.2.1 1 = .ok (.iload_n 1, 1)) rfl
theorem zf_zm_146_2 (env : List (Nat × Nat)) : zI9 146 zY_146 zm_146 env (2, 63, 2, 0, 0) 3 := zi_iload_n (by decide +kernel : decode zY_146.2.1 2 = .ok (.iload_n 2, 1)) rfl
theorem zf_zm_146_3 (env : List (Nat × Nat)) : zI9 146 zY_146 zm_146 env (3, 63, 3, 0, 0) 4 := zi_iload_n (by decide +kernel : decode zY_146.2.1 3 = .ok (.iload_n 3, 1)) rfl
theorem zf_zm_146_4 (env : List (Nat × Nat)) : zC9 146 zm_146 env (4, 3, 12, 261, 2) := zi_callT (by decide +kernel) (zr_V (i := 28) (n := 3) (q := ("TransportPair", zF_0, 8)) zX_ok rfl (zgood_12) (by decide +kernel) (zw_T zwd_124) (zw_T zwd_708) (zw_T zwd_709) rfl (zw_T zwd_710) ⟨by decide +kernel, by decide +kernel, by decide +kernel⟩ rfl (by decide +kernel : decode (zYf 146).2.1 4 = .ok (.invokevirtual 28, 3))) (zt_V (i := 28) (n := 3) (q := ("TransportPair", zF_0, 8)) zX_ok zeo_zm_146 zNC_ok rfl (zgood_12) (by decide +kernel) (zw_T zwd_124) (zw_T zwd_708) (zw_T zwd_709) rfl (zw_T zwd_710) ⟨by decide +kernel, by decide +kernel, by decide +kernel⟩ rfl (by decide +kernel : decode (zYf 146).2.1 4 = .ok (.invokevirtual 28, 3)))
theorem zf_zm_146_5 (env : List (Nat × Nat)) : zI9 146 zY_146 zm_146 env (7, 7, 10, 0, 0) 10 := zi_goto (off := 11) (t := 18) (by decide +kernel : decode zY_146.2.1 7 = .ok (.goto 11, 3)) (by decide) (by decide +kernel)
theorem zf_zm_146_6 (env : List (Nat × Nat)) : zI9 146 zY_146 zm_146 env (10, 65, 4, 0, 0) 12 := zi_astore (by decide +kernel : decode zY_146.2.1 10 = .ok (.astore 4, 2)) (by decide)
theorem zf_zm_146_7 (env : List (Nat × Nat)) : zI9 146 zY_146 zm_146 env (12, 2, 1, 0, 0) 13 := zi_iconst (by decide +kernel : decode zY_146.2.1 12 = .ok (.iconst 1, 1)) (by decide +kernel)
theorem zf_zm_146_8 (env : List (Nat × Nat)) : zR9 146 env (13, 11, 0, 0, 0) := zi_iret (by decide +kernel : decode (zYf 146).2.1 13 = .ok (.ireturn, 1)) rfl
theorem zf_zm_146_9 (env : List (Nat × Nat)) : zI9 146 zY_146 zm_146 env (14, 99, 0, 0, 0) 18 := zi_none
theorem zf_zm_146_10 (env : List (Nat × Nat)) : zI9 146 zY_146 zm_146 env (18, 2, 0, 0, 0) 19 := zi_iconst (by decide +kernel : decode zY_146.2.1 18 = .ok (.iconst 0, 1)) (by decide +kernel)
theorem zf_zm_146_11 (env : List (Nat × Nat)) : zR9 146 env (19, 11, 0, 0, 0) := zi_iret (by decide +kernel : decode (zYf 146).2.1 19 = .ok (.ireturn, 1)) rfl
set_option maxRecDepth 100000 in
theorem zc_zm_146 (env : List (Nat × Nat)) : zcode zX (z_QF zEX zcl zft) (z_zm zEX zX zWL zcl zft zYf) zYf zW zET zcl zft (zGv env) 146 zm_146 zm_146.1 := ⟨Or.inl ⟨1, zf_zm_146_0 env, zpc_c⟩,
  Or.inl ⟨2, zf_zm_146_1 env, zpc_c⟩,
  Or.inl ⟨3, zf_zm_146_2 env, zpc_c⟩,
  Or.inl ⟨4, zf_zm_146_3 env, zpc_c⟩,
  Or.inr (Or.inr (Or.inl ⟨zf_zm_146_4 env, zpc_c⟩)),
  Or.inl ⟨10, zf_zm_146_5 env, zpc_c⟩,
  Or.inl ⟨12, zf_zm_146_6 env, zpc_c⟩,
  Or.inl ⟨13, zf_zm_146_7 env, zpc_c⟩,
  Or.inr (Or.inl (zf_zm_146_8 env)),
  Or.inl ⟨18, zf_zm_146_9 env, zpc_c⟩,
  Or.inl ⟨19, zf_zm_146_10 env, zpc_c⟩,
  Or.inr (Or.inl (zf_zm_146_11 env)), trivial⟩
theorem zf_zm_147_0 (env : List (Nat × Nat)) : zI9 147 zY_147 zm_147 env (0, 0, 0, 0, 0) 1 := zi_aload_n (by decide +kernel : decode zY_147.2.1 0 = .ok (.aload_n 0, 1)) rfl
theorem zf_zm_147_1 (env : List (Nat × Nat)) : zC9 147 zm_147 env (1, 3, 13, 65, 2) := zi_callT (by decide +kernel) (zr_V (i := 32) (n := 0) (q := ("TransportPair", zF_0, 8)) zX_ok rfl (zgood_13) (by decide +kernel) (zw_T zwd_124) (zw_T zwd_711) (zw_T zwd_712) rfl (zw_T zwd_713) ⟨by decide +kernel, by decide +kernel, by decide +kernel⟩ rfl (by decide +kernel : decode (zYf 147).2.1 1 = .ok (.invokevirtual 32, 3))) (zt_V (i := 32) (n := 0) (q := ("TransportPair", zF_0, 8)) zX_ok zeo_zm_147 zNC_ok rfl (zgood_13) (by decide +kernel) (zw_T zwd_124) (zw_T zwd_711) (zw_T zwd_712) rfl (zw_T zwd_713) ⟨by decide +kernel, by decide +kernel, by decide +kernel⟩ rfl (by decide +kernel : decode (zYf 147).2.1 1 = .ok (.invokevirtual 32, 3)))
theorem zf_zm_147_2 (env : List (Nat × Nat)) : zI9 147 zY_147 zm_147 env (4, 99, 0, 0, 0) 7 := zi_none
theorem zf_zm_147_3 (env : List (Nat × Nat)) : zI9 147 zY_147 zm_147 env (7, 65, 1, 0, 0) 8 := zi_astore_n (by decide +kernel : decode zY_147.2.1 7 = .ok (.astore_n 1, 1)) rfl (by decide)
theorem zf_zm_147_4 (env : List (Nat × Nat)) : zI9 147 zY_147 zm_147 env (8, 2, 1, 0, 0) 9 := zi_iconst (by decide +kernel : decode zY_147.2.1 8 = .ok (.iconst 1, 1)) (by decide +kernel)
theorem zf_zm_147_5 (env : List (Nat × Nat)) : zR9 147 env (9, 11, 0, 0, 0) := zi_iret (by decide +kernel : decode (zYf 147).2.1 9 = .ok (.ireturn, 1)) rfl
theorem zf_zm_147_6 (env : List (Nat × Nat)) : zI9 147 zY_147 zm_147 env (10, 99, 0, 0, 0) 0 := zi_none
set_option maxRecDepth 100000 in
theorem zc_zm_147 (env : List (Nat × Nat)) : zcode zX (z_QF zEX zcl zft) (z_zm zEX zX zWL zcl zft zYf) zYf zW zET zcl zft (zGv env) 147 zm_147 zm_147.1 := ⟨Or.inl ⟨1, zf_zm_147_0 env, zpc_c⟩,
  Or.inr (Or.inr (Or.inl ⟨zf_zm_147_1 env, zpc_c⟩)),
  Or.inl ⟨7, zf_zm_147_2 env, zpc_c⟩,
  Or.inl ⟨8, zf_zm_147_3 env, zpc_c⟩,
  Or.inl ⟨9, zf_zm_147_4 env, zpc_c⟩,
  Or.inr (Or.inl (zf_zm_147_5 env)),
  Or.inl ⟨0, zf_zm_147_6 env, zpc_n⟩, trivial⟩
theorem zf_zm_148_0 (env : List (Nat × Nat)) : zI9 148 zY_148 zm_148 env (0, 0, 3, 0, 0) 1 := zi_aload_n (by decide +kernel : decode zY_148.2.1 0 = .ok (.aload_n 3, 1)) rfl
theorem zf_zm_148_1 (env : List (Nat × Nat)) : zI9 148 zY_148 zm_148 env (1, 2, 0, 0, 0) 2 := zi_iconst (by decide +kernel : decode zY_148.2.1 1 = .ok (.iconst 0, 1)) (by decide +kernel)
theorem zf_zm_148_2 (env : List (Nat × Nat)) : zI9 148 zY_148 zm_148 env (2, 0, 0, 0, 0) 3 := zi_aload_n (by decide +kernel : decode zY_148.2.1 2 = .ok (.aload_n 0, 1)) rfl
theorem zf_zm_148_3 (env : List (Nat × Nat)) : zI9 148 zY_148 zm_148 env (3, 63, 1, 0, 0) 4 := zi_iload_n (by decide +kernel : decode zY_148.2.1 3 = .ok (.iload_n 1, 1)) rfl
theorem zf_zm_148_4 (env : List (Nat × Nat)) : zI9 148 zY_148 zm_148 env (4, 63, 2, 0, 0) 5 := zi_iload_n (by decide +kernel : decode zY_148.2.1 4 = .ok (.iload_n 2, 1)) rfl
theorem zf_zm_148_5 (env : List (Nat × Nat)) : zC9 148 zm_148 env (5, 3, 14, 195, 2) := zi_callT (by decide +kernel) (zr_V (i := 35) (n := 2) (q := ("TransportPair", zF_0, 8)) zX_ok rfl (zgood_14) (by decide +kernel) (zw_T zwd_124) (zw_T zwd_714) (zw_T zwd_715) rfl (zw_T zwd_716) ⟨by decide +kernel, by decide +kernel, by decide +kernel⟩ rfl (by decide +kernel : decode (zYf 148).2.1 5 = .ok (.invokevirtual 35, 3))) (zt_V (i := 35) (n := 2) (q := ("TransportPair", zF_0, 8)) zX_ok zeo_zm_148 zNC_ok rfl (zgood_14) (by decide +kernel) (zw_T zwd_124) (zw_T zwd_714) (zw_T zwd_715) rfl (zw_T zwd_716) ⟨by decide +kernel, by decide +kernel, by decide +kernel⟩ rfl (by decide +kernel : decode (zYf 148).2.1 5 = .ok (.invokevirtual 35, 3)))
theorem zf_zm_148_6 (env : List (Nat × Nat)) : zI9 148 zY_148 zm_148 env (8, 16, 0, 0, 0) 9 := zi_i2l (by decide +kernel : decode zY_148.2.1 8 = .ok (.i2l, 1))
theorem zf_zm_148_7 (env : List (Nat × Nat)) : zI9 148 zY_148 zm_148 env (9, 18, 0, 0, 0) 10 := zi_last (by decide +kernel : decode zY_148.2.1 9 = .ok (.lastore, 1))
theorem zf_zm_148_8 (env : List (Nat × Nat)) : zI9 148 zY_148 zm_148 env (10, 7, 12, 0, 0) 13 := zi_goto (off := 7) (t := 17) (by decide +kernel : decode zY_148.2.1 10 = .ok (.goto 7, 3)) (by decide) (by decide +kernel)
theorem zf_zm_148_9 (env : List (Nat × Nat)) : zI9 148 zY_148 zm_148 env (13, 65, 4, 0, 0) 15 := zi_astore (by decide +kernel : decode zY_148.2.1 13 = .ok (.astore 4, 2)) (by decide)
theorem zf_zm_148_10 (env : List (Nat × Nat)) : zI9 148 zY_148 zm_148 env (15, 2, 1, 0, 0) 16 := zi_iconst (by decide +kernel : decode zY_148.2.1 15 = .ok (.iconst 1, 1)) (by decide +kernel)
theorem zf_zm_148_11 (env : List (Nat × Nat)) : zR9 148 env (16, 11, 0, 0, 0) := zi_iret (by decide +kernel : decode (zYf 148).2.1 16 = .ok (.ireturn, 1)) rfl
theorem zf_zm_148_12 (env : List (Nat × Nat)) : zI9 148 zY_148 zm_148 env (17, 2, 0, 0, 0) 18 := zi_iconst (by decide +kernel : decode zY_148.2.1 17 = .ok (.iconst 0, 1)) (by decide +kernel)
theorem zf_zm_148_13 (env : List (Nat × Nat)) : zR9 148 env (18, 11, 0, 0, 0) := zi_iret (by decide +kernel : decode (zYf 148).2.1 18 = .ok (.ireturn, 1)) rfl
set_option maxRecDepth 100000 in
theorem zc_zm_148 (env : List (Nat × Nat)) : zcode zX (z_QF zEX zcl zft) (z_zm zEX zX zWL zcl zft zYf) zYf zW zET zcl zft (zGv env) 148 zm_148 zm_148.1 := ⟨Or.inl ⟨1, zf_zm_148_0 env, zpc_c⟩,
  Or.inl ⟨2, zf_zm_148_1 env, zpc_c⟩,
  Or.inl ⟨3, zf_zm_148_2 env, zpc_c⟩,
  Or.inl ⟨4, zf_zm_148_3 env, zpc_c⟩,
  Or.inl ⟨5, zf_zm_148_4 env, zpc_c⟩,
  Or.inr (Or.inr (Or.inl ⟨zf_zm_148_5 env, zpc_c⟩)),
  Or.inl ⟨9, zf_zm_148_6 env, zpc_c⟩,
  Or.inl ⟨10, zf_zm_148_7 env, zpc_c⟩,
  Or.inl ⟨13, zf_zm_148_8 env, zpc_c⟩,
  Or.inl ⟨15, zf_zm_148_9 env, zpc_c⟩,
  Or.inl ⟨16, zf_zm_148_10 env, zpc_c⟩,
  Or.inr (Or.inl (zf_zm_148_11 env)),
  Or.inl ⟨18, zf_zm_148_12 env, zpc_c⟩,
  Or.inr (Or.inl (zf_zm_148_13 env)), trivial⟩
theorem zf_zm_149_0 (env : List (Nat × Nat)) : zI9 149 zY_149 zm_149 env (0, 0, 3, 0, 0) 1 := zi_aload_n (by decide +kernel : decode zY_149.2.1 0 = .ok (.aload_n 3, 1)) rfl
theorem zf_zm_149_1 (env : List (Nat × Nat)) : zI9 149 zY_149 zm_149 env (1, 2, 0, 0, 0) 2 := zi_iconst (by decide +kernel : decode zY_149.2.1 1 = .ok (.iconst 0, 1)) (by decide +kernel)
theorem zf_zm_149_2 (env : List (Nat × Nat)) : zI9 149 zY_149 zm_149 env (2, 0, 0, 0, 0) 3 := zi_aload_n (by decide +kernel : decode zY_149.2.1 2 = .ok (.aload_n 0, 1)) rfl
theorem zf_zm_149_3 (env : List (Nat × Nat)) : zI9 149 zY_149 zm_149 env (3, 63, 1, 0, 0) 4 := zi_iload_n (by decide +kernel : decode zY_149.2.1 3 = .ok (.iload_n 1, 1)) rfl
theorem zf_zm_149_4 (env : List (Nat × Nat)) : zI9 149 zY_149 zm_149 env (4, 63, 2, 0, 0) 5 := zi_iload_n (by decide +kernel : decode zY_149.2.1 4 = .ok (.iload_n 2, 1)) rfl
theorem zf_zm_149_5 (env : List (Nat × Nat)) : zC9 149 zm_149 env (5, 3, 15, 196, 2) := zi_callT (by decide +kernel) (zr_V (i := 39) (n := 2) (q := ("TransportPair", zF_0, 8)) zX_ok rfl (zgood_15) (by decide +kernel) (zw_T zwd_124) (zw_T zwd_717) (zw_T zwd_718) rfl (zw_T zwd_719) ⟨by decide +kernel, by decide +kernel, by decide +kernel⟩ rfl (by decide +kernel : decode (zYf 149).2.1 5 = .ok (.invokevirtual 39, 3))) (zt_V (i := 39) (n := 2) (q := ("TransportPair", zF_0, 8)) zX_ok zeo_zm_149 zNC_ok rfl (zgood_15) (by decide +kernel) (zw_T zwd_124) (zw_T zwd_717) (zw_T zwd_718) rfl (zw_T zwd_719) ⟨by decide +kernel, by decide +kernel, by decide +kernel⟩ rfl (by decide +kernel : decode (zYf 149).2.1 5 = .ok (.invokevirtual 39, 3)))
theorem zf_zm_149_6 (env : List (Nat × Nat)) : zI9 149 zY_149 zm_149 env (8, 16, 0, 0, 0) 9 := zi_i2l (by decide +kernel : decode zY_149.2.1 8 = .ok (.i2l, 1))
theorem zf_zm_149_7 (env : List (Nat × Nat)) : zI9 149 zY_149 zm_149 env (9, 18, 0, 0, 0) 10 := zi_last (by decide +kernel : decode zY_149.2.1 9 = .ok (.lastore, 1))
theorem zf_zm_149_8 (env : List (Nat × Nat)) : zI9 149 zY_149 zm_149 env (10, 7, 12, 0, 0) 13 := zi_goto (off := 7) (t := 17) (by decide +kernel : decode zY_149.2.1 10 = .ok (.goto 7, 3)) (by decide) (by decide +kernel)
theorem zf_zm_149_9 (env : List (Nat × Nat)) : zI9 149 zY_149 zm_149 env (13, 65, 4, 0, 0) 15 := zi_astore (by decide +kernel : decode zY_149.2.1 13 = .ok (.astore 4, 2)) (by decide)
theorem zf_zm_149_10 (env : List (Nat × Nat)) : zI9 149 zY_149 zm_149 env (15, 2, 1, 0, 0) 16 := zi_iconst (by decide +kernel : decode zY_149.2.1 15 = .ok (.iconst 1, 1)) (by decide +kernel)
theorem zf_zm_149_11 (env : List (Nat × Nat)) : zR9 149 env (16, 11, 0, 0, 0) := zi_iret (by decide +kernel : decode (zYf 149).2.1 16 = .ok (.ireturn, 1)) rfl
theorem zf_zm_149_12 (env : List (Nat × Nat)) : zI9 149 zY_149 zm_149 env (17, 2, 0, 0, 0) 18 := zi_iconst (by decide +kernel : decode zY_149.2.1 17 = .ok (.iconst 0, 1)) (by decide +kernel)
theorem zf_zm_149_13 (env : List (Nat × Nat)) : zR9 149 env (18, 11, 0, 0, 0) := zi_iret (by decide +kernel : decode (zYf 149).2.1 18 = .ok (.ireturn, 1)) rfl
set_option maxRecDepth 100000 in
theorem zc_zm_149 (env : List (Nat × Nat)) : zcode zX (z_QF zEX zcl zft) (z_zm zEX zX zWL zcl zft zYf) zYf zW zET zcl zft (zGv env) 149 zm_149 zm_149.1 := ⟨Or.inl ⟨1, zf_zm_149_0 env, zpc_c⟩,
  Or.inl ⟨2, zf_zm_149_1 env, zpc_c⟩,
  Or.inl ⟨3, zf_zm_149_2 env, zpc_c⟩,
  Or.inl ⟨4, zf_zm_149_3 env, zpc_c⟩,
  Or.inl ⟨5, zf_zm_149_4 env, zpc_c⟩,
  Or.inr (Or.inr (Or.inl ⟨zf_zm_149_5 env, zpc_c⟩)),
  Or.inl ⟨9, zf_zm_149_6 env, zpc_c⟩,
  Or.inl ⟨10, zf_zm_149_7 env, zpc_c⟩,
  Or.inl ⟨13, zf_zm_149_8 env, zpc_c⟩,
  Or.inl ⟨15, zf_zm_149_9 env, zpc_c⟩,
  Or.inl ⟨16, zf_zm_149_10 env, zpc_c⟩,
  Or.inr (Or.inl (zf_zm_149_11 env)),
  Or.inl ⟨18, zf_zm_149_12 env, zpc_c⟩,
  Or.inr (Or.inl (zf_zm_149_13 env)), trivial⟩
theorem zf_zm_150_0 (env : List (Nat × Nat)) : zI9 150 zY_150 zm_150 env (0, 0, 3, 0, 0) 1 := zi_aload_n (by decide +kernel : decode zY_150.2.1 0 = .ok (.aload_n 3, 1)) rfl
theorem zf_zm_150_1 (env : List (Nat × Nat)) : zI9 150 zY_150 zm_150 env (1, 2, 0, 0, 0) 2 := zi_iconst (by decide +kernel : decode zY_150.2.1 1 = .ok (.iconst 0, 1)) (by decide +kernel)
theorem zf_zm_150_2 (env : List (Nat × Nat)) : zI9 150 zY_150 zm_150 env (2, 0, 0, 0, 0) 3 := zi_aload_n (by decide +kernel : decode zY_150.2.1 2 = .ok (.aload_n 0, 1)) rfl
theorem zf_zm_150_3 (env : List (Nat × Nat)) : zI9 150 zY_150 zm_150 env (3, 63, 1, 0, 0) 4 := zi_iload_n (by decide +kernel : decode zY_150.2.1 3 = .ok (.iload_n 1, 1)) rfl
theorem zf_zm_150_4 (env : List (Nat × Nat)) : zI9 150 zY_150 zm_150 env (4, 63, 2, 0, 0) 5 := zi_iload_n (by decide +kernel : decode zY_150.2.1 4 = .ok (.iload_n 2, 1)) rfl
theorem zf_zm_150_5 (env : List (Nat × Nat)) : zC9 150 zm_150 env (5, 3, 16, 195, 2) := zi_callT (by decide +kernel) (zr_V (i := 43) (n := 2) (q := ("TransportPair", zF_0, 8)) zX_ok rfl (zgood_16) (by decide +kernel) (zw_T zwd_124) (zw_T zwd_720) (zw_T zwd_721) rfl (zw_T zwd_722) ⟨by decide +kernel, by decide +kernel, by decide +kernel⟩ rfl (by decide +kernel : decode (zYf 150).2.1 5 = .ok (.invokevirtual 43, 3))) (zt_V (i := 43) (n := 2) (q := ("TransportPair", zF_0, 8)) zX_ok zeo_zm_150 zNC_ok rfl (zgood_16) (by decide +kernel) (zw_T zwd_124) (zw_T zwd_720) (zw_T zwd_721) rfl (zw_T zwd_722) ⟨by decide +kernel, by decide +kernel, by decide +kernel⟩ rfl (by decide +kernel : decode (zYf 150).2.1 5 = .ok (.invokevirtual 43, 3)))
theorem zf_zm_150_6 (env : List (Nat × Nat)) : zI9 150 zY_150 zm_150 env (8, 5, 8, 0, 0) 11 := zi_if_eq (off := 7) (t := 15) (by decide +kernel : decode zY_150.2.1 8 = .ok (.ifCond .eq 7, 3)) (by decide) (by decide +kernel)
theorem zf_zm_150_7 (env : List (Nat × Nat)) : zI9 150 zY_150 zm_150 env (11, 99, 0, 0, 0) 15 := zi_none
theorem zf_zm_150_8 (env : List (Nat × Nat)) : zI9 150 zY_150 zm_150 env (15, 15, 0, 0, 0) 16 := zi_lconst (by decide +kernel : decode zY_150.2.1 15 = .ok (.lconst 0, 1)) (by decide +kernel)
theorem zf_zm_150_9 (env : List (Nat × Nat)) : zI9 150 zY_150 zm_150 env (16, 18, 0, 0, 0) 17 := zi_last (by decide +kernel : decode zY_150.2.1 16 = .ok (.lastore, 1))
theorem zf_zm_150_10 (env : List (Nat × Nat)) : zI9 150 zY_150 zm_150 env (17, 7, 14, 0, 0) 20 := zi_goto (off := 7) (t := 24) (by decide +kernel : decode zY_150.2.1 17 = .ok (.goto 7, 3)) (by decide) (by decide +kernel)
theorem zf_zm_150_11 (env : List (Nat × Nat)) : zI9 150 zY_150 zm_150 env (20, 65, 4, 0, 0) 22 := zi_astore (by decide +kernel : decode zY_150.2.1 20 = .ok (.astore 4, 2)) (by decide)
theorem zf_zm_150_12 (env : List (Nat × Nat)) : zI9 150 zY_150 zm_150 env (22, 2, 1, 0, 0) 23 := zi_iconst (by decide +kernel : decode zY_150.2.1 22 = .ok (.iconst 1, 1)) (by decide +kernel)
theorem zf_zm_150_13 (env : List (Nat × Nat)) : zR9 150 env (23, 11, 0, 0, 0) := zi_iret (by decide +kernel : decode (zYf 150).2.1 23 = .ok (.ireturn, 1)) rfl
theorem zf_zm_150_14 (env : List (Nat × Nat)) : zI9 150 zY_150 zm_150 env (24, 2, 0, 0, 0) 25 := zi_iconst (by decide +kernel : decode zY_150.2.1 24 = .ok (.iconst 0, 1)) (by decide +kernel)
theorem zf_zm_150_15 (env : List (Nat × Nat)) : zR9 150 env (25, 11, 0, 0, 0) := zi_iret (by decide +kernel : decode (zYf 150).2.1 25 = .ok (.ireturn, 1)) rfl
set_option maxRecDepth 100000 in
theorem zc_zm_150 (env : List (Nat × Nat)) : zcode zX (z_QF zEX zcl zft) (z_zm zEX zX zWL zcl zft zYf) zYf zW zET zcl zft (zGv env) 150 zm_150 zm_150.1 := ⟨Or.inl ⟨1, zf_zm_150_0 env, zpc_c⟩,
  Or.inl ⟨2, zf_zm_150_1 env, zpc_c⟩,
  Or.inl ⟨3, zf_zm_150_2 env, zpc_c⟩,
  Or.inl ⟨4, zf_zm_150_3 env, zpc_c⟩,
  Or.inl ⟨5, zf_zm_150_4 env, zpc_c⟩,
  Or.inr (Or.inr (Or.inl ⟨zf_zm_150_5 env, zpc_c⟩)),
  Or.inl ⟨11, zf_zm_150_6 env, zpc_c⟩,
  Or.inl ⟨15, zf_zm_150_7 env, zpc_c⟩,
  Or.inl ⟨16, zf_zm_150_8 env, zpc_c⟩,
  Or.inl ⟨17, zf_zm_150_9 env, zpc_c⟩,
  Or.inl ⟨20, zf_zm_150_10 env, zpc_c⟩,
  Or.inl ⟨22, zf_zm_150_11 env, zpc_c⟩,
  Or.inl ⟨23, zf_zm_150_12 env, zpc_c⟩,
  Or.inr (Or.inl (zf_zm_150_13 env)),
  Or.inl ⟨25, zf_zm_150_14 env, zpc_c⟩,
  Or.inr (Or.inl (zf_zm_150_15 env)), trivial⟩
theorem zf_zm_151_0 (env : List (Nat × Nat)) : zI9 151 zY_151 zm_151 env (0, 0, 4, 0, 0) 2 := zi_aload (by decide +kernel : decode zY_151.2.1 0 = .ok (.aload 4, 2))
theorem zf_zm_151_1 (env : List (Nat × Nat)) : zI9 151 zY_151 zm_151 env (2, 2, 0, 0, 0) 3 := zi_iconst (by decide +kernel : decode zY_151.2.1 2 = .ok (.iconst 0, 1)) (by decide +kernel)
theorem zf_zm_151_2 (env : List (Nat × Nat)) : zI9 151 zY_151 zm_151 env (3, 0, 0, 0, 0) 4 := zi_aload_n (by decide +kernel : decode zY_151.2.1 3 = .ok (.aload_n 0, 1)) rfl
theorem zf_zm_151_3 (env : List (Nat × Nat)) : zI9 151 zY_151 zm_151 env (4, 63, 1, 0, 0) 5 := zi_iload_n (by decide +kernel : decode zY_151.2.1 4 = .ok (.iload_n 1, 1)) rfl
theorem zf_zm_151_4 (env : List (Nat × Nat)) : zI9 151 zY_151 zm_151 env (5, 63, 2, 0, 0) 6 := zi_iload_n (by decide +kernel : decode zY_151.2.1 5 = .ok (.iload_n 2, 1)) rfl
theorem zf_zm_151_5 (env : List (Nat × Nat)) : zI9 151 zY_151 zm_151 env (6, 63, 3, 0, 0) 7 := zi_iload_n (by decide +kernel : decode zY_151.2.1 6 = .ok (.iload_n 3, 1)) rfl
theorem zf_zm_151_6 (env : List (Nat × Nat)) : zC9 151 zm_151 env (7, 3, 17, 260, 2) := zi_callT (by decide +kernel) (zr_V (i := 47) (n := 3) (q := ("TransportPair", zF_0, 8)) zX_ok rfl (zgood_17) (by decide +kernel) (zw_T zwd_124) (zw_T zwd_723) (zw_T zwd_724) rfl (zw_T zwd_725) ⟨by decide +kernel, by decide +kernel, by decide +kernel⟩ rfl (by decide +kernel : decode (zYf 151).2.1 7 = .ok (.invokevirtual 47, 3))) (zt_V (i := 47) (n := 3) (q := ("TransportPair", zF_0, 8)) zX_ok zeo_zm_151 zNC_ok rfl (zgood_17) (by decide +kernel) (zw_T zwd_124) (zw_T zwd_723) (zw_T zwd_724) rfl (zw_T zwd_725) ⟨by decide +kernel, by decide +kernel, by decide +kernel⟩ rfl (by decide +kernel : decode (zYf 151).2.1 7 = .ok (.invokevirtual 47, 3)))
theorem zf_zm_151_7 (env : List (Nat × Nat)) : zI9 151 zY_151 zm_151 env (10, 5, 9, 0, 0) 13 := zi_if_eq (off := 7) (t := 17) (by decide +kernel : decode zY_151.2.1 10 = .ok (.ifCond .eq 7, 3)) (by decide) (by decide +kernel)
theorem zf_zm_151_8 (env : List (Nat × Nat)) : zI9 151 zY_151 zm_151 env (13, 99, 0, 0, 0) 17 := zi_none
theorem zf_zm_151_9 (env : List (Nat × Nat)) : zI9 151 zY_151 zm_151 env (17, 15, 0, 0, 0) 18 := zi_lconst (by decide +kernel : decode zY_151.2.1 17 = .ok (.lconst 0, 1)) (by decide +kernel)
theorem zf_zm_151_10 (env : List (Nat × Nat)) : zI9 151 zY_151 zm_151 env (18, 18, 0, 0, 0) 19 := zi_last (by decide +kernel : decode zY_151.2.1 18 = .ok (.lastore, 1))
theorem zf_zm_151_11 (env : List (Nat × Nat)) : zI9 151 zY_151 zm_151 env (19, 7, 15, 0, 0) 22 := zi_goto (off := 7) (t := 26) (by decide +kernel : decode zY_151.2.1 19 = .ok (.goto 7, 3)) (by decide) (by decide +kernel)
theorem zf_zm_151_12 (env : List (Nat × Nat)) : zI9 151 zY_151 zm_151 env (22, 65, 5, 0, 0) 24 := zi_astore (by decide +kernel : decode zY_151.2.1 22 = .ok (.astore 5, 2)) (by decide)
theorem zf_zm_151_13 (env : List (Nat × Nat)) : zI9 151 zY_151 zm_151 env (24, 2, 1, 0, 0) 25 := zi_iconst (by decide +kernel : decode zY_151.2.1 24 = .ok (.iconst 1, 1)) (by decide +kernel)
theorem zf_zm_151_14 (env : List (Nat × Nat)) : zR9 151 env (25, 11, 0, 0, 0) := zi_iret (by decide +kernel : decode (zYf 151).2.1 25 = .ok (.ireturn, 1)) rfl
theorem zf_zm_151_15 (env : List (Nat × Nat)) : zI9 151 zY_151 zm_151 env (26, 2, 0, 0, 0) 27 := zi_iconst (by decide +kernel : decode zY_151.2.1 26 = .ok (.iconst 0, 1)) (by decide +kernel)
theorem zf_zm_151_16 (env : List (Nat × Nat)) : zR9 151 env (27, 11, 0, 0, 0) := zi_iret (by decide +kernel : decode (zYf 151).2.1 27 = .ok (.ireturn, 1)) rfl
set_option maxRecDepth 100000 in
theorem zc_zm_151 (env : List (Nat × Nat)) : zcode zX (z_QF zEX zcl zft) (z_zm zEX zX zWL zcl zft zYf) zYf zW zET zcl zft (zGv env) 151 zm_151 zm_151.1 := ⟨Or.inl ⟨2, zf_zm_151_0 env, zpc_c⟩,
  Or.inl ⟨3, zf_zm_151_1 env, zpc_c⟩,
  Or.inl ⟨4, zf_zm_151_2 env, zpc_c⟩,
  Or.inl ⟨5, zf_zm_151_3 env, zpc_c⟩,
  Or.inl ⟨6, zf_zm_151_4 env, zpc_c⟩,
  Or.inl ⟨7, zf_zm_151_5 env, zpc_c⟩,
  Or.inr (Or.inr (Or.inl ⟨zf_zm_151_6 env, zpc_c⟩)),
  Or.inl ⟨13, zf_zm_151_7 env, zpc_c⟩,
  Or.inl ⟨17, zf_zm_151_8 env, zpc_c⟩,
  Or.inl ⟨18, zf_zm_151_9 env, zpc_c⟩,
  Or.inl ⟨19, zf_zm_151_10 env, zpc_c⟩,
  Or.inl ⟨22, zf_zm_151_11 env, zpc_c⟩,
  Or.inl ⟨24, zf_zm_151_12 env, zpc_c⟩,
  Or.inl ⟨25, zf_zm_151_13 env, zpc_c⟩,
  Or.inr (Or.inl (zf_zm_151_14 env)),
  Or.inl ⟨27, zf_zm_151_15 env, zpc_c⟩,
  Or.inr (Or.inl (zf_zm_151_16 env)), trivial⟩
