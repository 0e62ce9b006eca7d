/-! FACTS (by program) -/
theorem zf_zm_80_0 (env : List (Nat × Nat)) : zI9 80 zY_80 zm_80 env (0, 0, 0, 0, 0) 1 := zi_aload_n (by decide +kernel : decode zY_80.2.1 0 = .ok (.aload_n 0, 1)) rfl
theorem zf_zm_80_1 (env : List (Nat × Nat)) : zI9 80 zY_80 zm_80 env (1, 1, 2, 0, 2) 4 := zi_getf (i := 10) (N := 20) (C := "TransportPair$Book") (ref := "TransportPair$Book") (T := zF_2) (by decide +kernel : decode zY_80.2.1 1 = .ok (.getfield 10, 3)) rfl zuw_2 (by decide) (zw_T zwd_330) rfl
theorem zf_zm_80_2 (env : List (Nat × Nat)) : zI9 80 zY_80 zm_80 env (4, 63, 1, 0, 0) 5 := zi_iload_n (by decide +kernel : decode zY_80.2.1 4 = .ok (.iload_n 1, 1)) rfl
theorem zf_zm_80_3 (env : List (Nat × Nat)) : zI9 80 zY_80 zm_80 env (5, 19, 0, 0, 0) 6 := zi_aald zft_all (by decide +kernel : decode zY_80.2.1 5 = .ok (.aaload, 1))
theorem zf_zm_80_4 (env : List (Nat × Nat)) : zI9 80 zY_80 zm_80 env (6, 65, 2, 0, 0) 7 := zi_astore_n (by decide +kernel : decode zY_80.2.1 6 = .ok (.astore_n 2, 1)) rfl (by decide)
theorem zf_zm_80_5 (env : List (Nat × Nat)) : zI9 80 zY_80 zm_80 env (7, 0, 2, 0, 0) 8 := zi_aload_n (by decide +kernel : decode zY_80.2.1 7 = .ok (.aload_n 2, 1)) rfl
theorem zf_zm_80_6 (env : List (Nat × Nat)) : zI9 80 zY_80 zm_80 env (8, 1, 11, 8, 3) 11 := zi_getf (i := 94) (N := 21) (C := "TransportPair$Space") (ref := "TransportPair$Space") (T := zF_11) (by decide +kernel : decode zY_80.2.1 8 = .ok (.getfield 94, 3)) rfl zuw_11 (by decide) (zw_T zwd_359) rfl
theorem zf_zm_80_7 (env : List (Nat × Nat)) : zI9 80 zY_80 zm_80 env (11, 6, 14, 0, 0) 14 := zi_if_ne (off := 15) (t := 26) (by decide +kernel : decode zY_80.2.1 11 = .ok (.ifCond .ne 15, 3)) (by decide) (by decide +kernel)
theorem zf_zm_80_8 (env : List (Nat × Nat)) : zI9 80 zY_80 zm_80 env (14, 63, 1, 0, 0) 15 := zi_iload_n (by decide +kernel : decode zY_80.2.1 14 = .ok (.iload_n 1, 1)) rfl
theorem zf_zm_80_9 (env : List (Nat × Nat)) : zI9 80 zY_80 zm_80 env (15, 2, 2, 0, 0) 16 := zi_iconst (by decide +kernel : decode zY_80.2.1 15 = .ok (.iconst 2, 1)) (by decide +kernel)
theorem zf_zm_80_10 (env : List (Nat × Nat)) : zI9 80 zY_80 zm_80 env (16, 29, 16, 0, 0) 19 := zi_icmp_ne (off := 12) (t := 28) (by decide +kernel : decode zY_80.2.1 16 = .ok (.if_icmp .ne 12, 3)) (by decide) (by decide +kernel)
theorem zf_zm_80_11 (env : List (Nat × Nat)) : zI9 80 zY_80 zm_80 env (19, 0, 0, 0, 0) 20 := zi_aload_n (by decide +kernel : decode zY_80.2.1 19 = .ok (.aload_n 0, 1)) rfl
theorem zf_zm_80_12 (env : List (Nat × Nat)) : zI9 80 zY_80 zm_80 env (20, 1, 2, 14, 3) 23 := zi_getf (i := 86) (N := 20) (C := "TransportPair$Book") (ref := "TransportPair$Book") (T := zF_2) (by decide +kernel : decode zY_80.2.1 20 = .ok (.getfield 86, 3)) rfl zuw_2 (by decide) (zw_T zwd_355) rfl
theorem zf_zm_80_13 (env : List (Nat × Nat)) : zI9 80 zY_80 zm_80 env (23, 6, 16, 0, 0) 26 := zi_if_ne (off := 5) (t := 28) (by decide +kernel : decode zY_80.2.1 23 = .ok (.ifCond .ne 5, 3)) (by decide) (by decide +kernel)
theorem zf_zm_80_14 (env : List (Nat × Nat)) : zI9 80 zY_80 zm_80 env (26, 2, 4294967295, 0, 0) 27 := zi_iconst (by decide +kernel : decode zY_80.2.1 26 = .ok (.iconst (-1), 1)) (by decide +kernel)
theorem zf_zm_80_15 (env : List (Nat × Nat)) : zR9 80 env (27, 11, 0, 0, 0) := zi_iret (by decide +kernel : decode (zYf 80).2.1 27 = .ok (.ireturn, 1)) rfl
theorem zf_zm_80_16 (env : List (Nat × Nat)) : zI9 80 zY_80 zm_80 env (28, 0, 2, 0, 0) 29 := zi_aload_n (by decide +kernel : decode zY_80.2.1 28 = .ok (.aload_n 2, 1)) rfl
theorem zf_zm_80_17 (env : List (Nat × Nat)) : zI9 80 zY_80 zm_80 env (29, 1, 11, 7, 0) 32 := zi_getf (i := 189) (N := 21) (C := "TransportPair$Space") (ref := "TransportPair$Space") (T := zF_11) (by decide +kernel : decode zY_80.2.1 29 = .ok (.getfield 189, 3)) rfl zuw_11 (by decide) (zw_T zwd_363) rfl
theorem zf_zm_80_18 (env : List (Nat × Nat)) : zI9 80 zY_80 zm_80 env (32, 10, 3, 0, 0) 33 := zi_istore_n (by decide +kernel : decode zY_80.2.1 32 = .ok (.istore_n 3, 1)) rfl (by decide)
theorem zf_zm_80_19 (env : List (Nat × Nat)) : zI9 80 zY_80 zm_80 env (33, 0, 2, 0, 0) 34 := zi_aload_n (by decide +kernel : decode zY_80.2.1 33 = .ok (.aload_n 2, 1)) rfl
theorem zf_zm_80_20 (env : List (Nat × Nat)) : zI9 80 zY_80 zm_80 env (34, 1, 11, 6, 0) 37 := zi_getf (i := 77) (N := 21) (C := "TransportPair$Space") (ref := "TransportPair$Space") (T := zF_11) (by decide +kernel : decode zY_80.2.1 34 = .ok (.getfield 77, 3)) rfl zuw_11 (by decide) (zw_T zwd_352) rfl
theorem zf_zm_80_21 (env : List (Nat × Nat)) : zI9 80 zY_80 zm_80 env (37, 6, 29, 0, 0) 40 := zi_if_ne (off := 32) (t := 69) (by decide +kernel : decode zY_80.2.1 37 = .ok (.ifCond .ne 32, 3)) (by decide) (by decide +kernel)
theorem zf_zm_80_22 (env : List (Nat × Nat)) : zI9 80 zY_80 zm_80 env (40, 0, 0, 0, 0) 41 := zi_aload_n (by decide +kernel : decode zY_80.2.1 40 = .ok (.aload_n 0, 1)) rfl
theorem zf_zm_80_23 (env : List (Nat × Nat)) : zI9 80 zY_80 zm_80 env (41, 1, 2, 13, 3) 44 := zi_getf (i := 192) (N := 20) (C := "TransportPair$Book") (ref := "TransportPair$Book") (T := zF_2) (by decide +kernel : decode zY_80.2.1 41 = .ok (.getfield 192, 3)) rfl zuw_2 (by decide) (zw_T zwd_364) rfl
theorem zf_zm_80_24 (env : List (Nat × Nat)) : zI9 80 zY_80 zm_80 env (44, 5, 26, 0, 0) 47 := zi_if_eq (off := 18) (t := 62) (by decide +kernel : decode zY_80.2.1 44 = .ok (.ifCond .eq 18, 3)) (by decide) (by decide +kernel)
theorem zf_zm_80_25 (env : List (Nat × Nat)) : zI9 80 zY_80 zm_80 env (47, 99, 0, 0, 0) 62 := zi_none
theorem zf_zm_80_26 (env : List (Nat × Nat)) : zI9 80 zY_80 zm_80 env (62, 2, 4294967295, 0, 0) 63 := zi_iconst (by decide +kernel : decode zY_80.2.1 62 = .ok (.iconst (-1), 1)) (by decide +kernel)
theorem zf_zm_80_27 (env : List (Nat × Nat)) : zR9 80 env (63, 11, 0, 0, 0) := zi_iret (by decide +kernel : decode (zYf 80).2.1 63 = .ok (.ireturn, 1)) rfl
theorem zf_zm_80_28 (env : List (Nat × Nat)) : zI9 80 zY_80 zm_80 env (64, 99, 0, 0, 0) 69 := zi_none
theorem zf_zm_80_29 (env : List (Nat × Nat)) : zI9 80 zY_80 zm_80 env (69, 99, 0, 0, 0) 0 := zi_none
set_option maxRecDepth 100000 in
theorem zc_zm_80 (env : List (Nat × Nat)) : zcode zX (z_QF zEX zcl zft) (z_zm zEX zX zWL zcl zft zYf) zYf zW zET zcl zft (zGv env) 80 zm_80 zm_80.1 := ⟨Or.inl ⟨1, zf_zm_80_0 env, zpc_c⟩,
  Or.inl ⟨4, zf_zm_80_1 env, zpc_c⟩,
  Or.inl ⟨5, zf_zm_80_2 env, zpc_c⟩,
  Or.inl ⟨6, zf_zm_80_3 env, zpc_c⟩,
  Or.inl ⟨7, zf_zm_80_4 env, zpc_c⟩,
  Or.inl ⟨8, zf_zm_80_5 env, zpc_c⟩,
  Or.inl ⟨11, zf_zm_80_6 env, zpc_c⟩,
  Or.inl ⟨14, zf_zm_80_7 env, zpc_c⟩,
  Or.inl ⟨15, zf_zm_80_8 env, zpc_c⟩,
  Or.inl ⟨16, zf_zm_80_9 env, zpc_c⟩,
  Or.inl ⟨19, zf_zm_80_10 env, zpc_c⟩,
  Or.inl ⟨20, zf_zm_80_11 env, zpc_c⟩,
  Or.inl ⟨23, zf_zm_80_12 env, zpc_c⟩,
  Or.inl ⟨26, zf_zm_80_13 env, zpc_c⟩,
  Or.inl ⟨27, zf_zm_80_14 env, zpc_c⟩,
  Or.inr (Or.inl (zf_zm_80_15 env)),
  Or.inl ⟨29, zf_zm_80_16 env, zpc_c⟩,
  Or.inl ⟨32, zf_zm_80_17 env, zpc_c⟩,
  Or.inl ⟨33, zf_zm_80_18 env, zpc_c⟩,
  Or.inl ⟨34, zf_zm_80_19 env, zpc_c⟩,
  Or.inl ⟨37, zf_zm_80_20 env, zpc_c⟩,
  Or.inl ⟨40, zf_zm_80_21 env, zpc_c⟩,
  Or.inl ⟨41, zf_zm_80_22 env, zpc_c⟩,
  Or.inl ⟨44, zf_zm_80_23 env, zpc_c⟩,
  Or.inl ⟨47, zf_zm_80_24 env, zpc_c⟩,
  Or.inl ⟨62, zf_zm_80_25 env, zpc_c⟩,
  Or.inl ⟨63, zf_zm_80_26 env, zpc_c⟩,
  Or.inr (Or.inl (zf_zm_80_27 env)),
  Or.inl ⟨69, zf_zm_80_28 env, zpc_c⟩,
  Or.inl ⟨0, zf_zm_80_29 env, zpc_n⟩, trivial⟩
theorem zf_zm_81_0 (env : List (Nat × Nat)) : zI9 81 zY_81 zm_81 env (0, 0, 0, 0, 0) 1 := zi_aload_n (by decide +kernel : decode zY_81.2.1 0 = .ok (.aload_n 0, 1)) rfl
theorem zf_zm_81_1 (env : List (Nat × Nat)) : zI9 81 zY_81 zm_81 env (1, 13, 0, 0, 0) 2 := zi_dup (by decide +kernel : decode zY_81.2.1 1 = .ok (.dup, 1))
theorem zf_zm_81_2 (env : List (Nat × Nat)) : zI9 81 zY_81 zm_81 env (2, 1, 2, 1, 0) 5 := zi_getf (i := 45) (N := 20) (C := "TransportPair$Book") (ref := "TransportPair$Book") (T := zF_2) (by decide +kernel : decode zY_81.2.1 2 = .ok (.getfield 45, 3)) rfl zuw_2 (by decide) (zw_T zwd_340) rfl
theorem zf_zm_81_3 (env : List (Nat × Nat)) : zI9 81 zY_81 zm_81 env (5, 2, 1, 0, 0) 6 := zi_iconst (by decide +kernel : decode zY_81.2.1 5 = .ok (.iconst 1, 1)) (by decide +kernel)
theorem zf_zm_81_4 (env : List (Nat × Nat)) : zI9 81 zY_81 zm_81 env (6, 9, 0, 0, 0) 7 := zi_iadd (by decide +kernel : decode zY_81.2.1 6 = .ok (.iadd, 1))
theorem zf_zm_81_5 (env : List (Nat × Nat)) : zI9 81 zY_81 zm_81 env (7, 4, 2, 1, 0) 10 := zi_putf (i := 45) (N := 20) (C := "TransportPair$Book") (ref := "TransportPair$Book") (T := zF_2) (by decide +kernel : decode zY_81.2.1 7 = .ok (.putfield 45, 3)) rfl zuw_2 zFt_2 zFn_2 (by decide) (zw_T zwd_340) rfl rfl (ty := .int) (by decide +kernel) (rfl)
theorem zf_zm_81_6 (env : List (Nat × Nat)) : zI9 81 zY_81 zm_81 env (10, 2, 4294967295, 0, 0) 11 := zi_iconst (by decide +kernel : decode zY_81.2.1 10 = .ok (.iconst (-1), 1)) (by decide +kernel)
theorem zf_zm_81_7 (env : List (Nat × Nat)) : zI9 81 zY_81 zm_81 env (11, 10, 1, 0, 0) 12 := zi_istore_n (by decide +kernel : decode zY_81.2.1 11 = .ok (.istore_n 1, 1)) rfl (by decide)
theorem zf_zm_81_8 (env : List (Nat × Nat)) : zI9 81 zY_81 zm_81 env (12, 2, 0, 0, 0) 13 := zi_iconst (by decide +kernel : decode zY_81.2.1 12 = .ok (.iconst 0, 1)) (by decide +kernel)
theorem zf_zm_81_9 (env : List (Nat × Nat)) : zI9 81 zY_81 zm_81 env (13, 10, 2, 0, 0) 14 := zi_istore_n (by decide +kernel : decode zY_81.2.1 13 = .ok (.istore_n 2, 1)) rfl (by decide)
theorem zf_zm_81_10 (env : List (Nat × Nat)) : zI9 81 zY_81 zm_81 env (14, 2, 0, 0, 0) 15 := zi_iconst (by decide +kernel : decode zY_81.2.1 14 = .ok (.iconst 0, 1)) (by decide +kernel)
theorem zf_zm_81_11 (env : List (Nat × Nat)) : zI9 81 zY_81 zm_81 env (15, 10, 3, 0, 0) 16 := zi_istore_n (by decide +kernel : decode zY_81.2.1 15 = .ok (.istore_n 3, 1)) rfl (by decide)
theorem zf_zm_81_12 (env : List (Nat × Nat)) : zI9 81 zY_81 zm_81 env (16, 63, 3, 0, 0) 17 := zi_iload_n (by decide +kernel : decode zY_81.2.1 16 = .ok (.iload_n 3, 1)) rfl
theorem zf_zm_81_13 (env : List (Nat × Nat)) : zI9 81 zY_81 zm_81 env (17, 2, 3, 0, 0) 18 := zi_iconst (by decide +kernel : decode zY_81.2.1 17 = .ok (.iconst 3, 1)) (by decide +kernel)
theorem zf_zm_81_14 (env : List (Nat × Nat)) : zI9 81 zY_81 zm_81 env (18, 28, 26, 0, 0) 21 := zi_icmp_ge (off := 49) (t := 67) (by decide +kernel : decode zY_81.2.1 18 = .ok (.if_icmp .ge 49, 3)) (by decide) (by decide +kernel)
theorem zf_zm_81_15 (env : List (Nat × Nat)) : zI9 81 zY_81 zm_81 env (21, 0, 0, 0, 0) 22 := zi_aload_n (by decide +kernel : decode zY_81.2.1 21 = .ok (.aload_n 0, 1)) rfl
theorem zf_zm_81_16 (env : List (Nat × Nat)) : zI9 81 zY_81 zm_81 env (22, 1, 2, 0, 2) 25 := zi_getf (i := 10) (N := 20) (C := "TransportPair$Book") (ref := "TransportPair$Book") (T := zF_2) (by decide +kernel : decode zY_81.2.1 22 = .ok (.getfield 10, 3)) rfl zuw_2 (by decide) (zw_T zwd_330) rfl
theorem zf_zm_81_17 (env : List (Nat × Nat)) : zI9 81 zY_81 zm_81 env (25, 63, 3, 0, 0) 26 := zi_iload_n (by decide +kernel : decode zY_81.2.1 25 = .ok (.iload_n 3, 1)) rfl
theorem zf_zm_81_18 (env : List (Nat × Nat)) : zI9 81 zY_81 zm_81 env (26, 19, 0, 0, 0) 27 := zi_aald zft_all (by decide +kernel : decode zY_81.2.1 26 = .ok (.aaload, 1))
theorem zf_zm_81_19 (env : List (Nat × Nat)) : zI9 81 zY_81 zm_81 env (27, 1, 11, 3, 0) 30 := zi_getf (i := 67) (N := 21) (C := "TransportPair$Space") (ref := "TransportPair$Space") (T := zF_11) (by decide +kernel : decode zY_81.2.1 27 = .ok (.getfield 67, 3)) rfl zuw_11 (by decide) (zw_T zwd_348) rfl
theorem zf_zm_81_20 (env : List (Nat × Nat)) : zI9 81 zY_81 zm_81 env (30, 10, 4, 0, 0) 32 := zi_istore (by decide +kernel : decode zY_81.2.1 30 = .ok (.istore 4, 2)) (by decide)
theorem zf_zm_81_21 (env : List (Nat × Nat)) : zI9 81 zY_81 zm_81 env (32, 63, 4, 0, 0) 34 := zi_iload (by decide +kernel : decode zY_81.2.1 32 = .ok (.iload 4, 2))
theorem zf_zm_81_22 (env : List (Nat × Nat)) : zI9 81 zY_81 zm_81 env (34, 22, 24, 0, 0) 37 := zi_if_lt (off := 27) (t := 61) (by decide +kernel : decode zY_81.2.1 34 = .ok (.ifCond .lt 27, 3)) (by decide) (by decide +kernel)
theorem zf_zm_81_23 (env : List (Nat × Nat)) : zI9 81 zY_81 zm_81 env (37, 99, 0, 0, 0) 61 := zi_none
theorem zf_zm_81_24 (env : List (Nat × Nat)) : zI9 81 zY_81 zm_81 env (61, 35, 3, 1, 0) 64 := zi_iinc (by decide +kernel : decode zY_81.2.1 61 = .ok (.iinc 3 1, 3)) (by decide +kernel) (by decide)
theorem zf_zm_81_25 (env : List (Nat × Nat)) : zI9 81 zY_81 zm_81 env (64, 7, 12, 0, 0) 67 := zi_goto (off := (-48)) (t := 16) (by decide +kernel : decode zY_81.2.1 64 = .ok (.goto (-48), 3)) (by decide) (by decide +kernel)
theorem zf_zm_81_26 (env : List (Nat × Nat)) : zI9 81 zY_81 zm_81 env (67, 63, 1, 0, 0) 68 := zi_iload_n (by decide +kernel : decode zY_81.2.1 67 = .ok (.iload_n 1, 1)) rfl
theorem zf_zm_81_27 (env : List (Nat × Nat)) : zI9 81 zY_81 zm_81 env (68, 22, 29, 0, 0) 71 := zi_if_lt (off := 15) (t := 83) (by decide +kernel : decode zY_81.2.1 68 = .ok (.ifCond .lt 15, 3)) (by decide) (by decide +kernel)
theorem zf_zm_81_28 (env : List (Nat × Nat)) : zI9 81 zY_81 zm_81 env (71, 99, 0, 0, 0) 83 := zi_none
theorem zf_zm_81_29 (env : List (Nat × Nat)) : zI9 81 zY_81 zm_81 env (83, 2, 0, 0, 0) 84 := zi_iconst (by decide +kernel : decode zY_81.2.1 83 = .ok (.iconst 0, 1)) (by decide +kernel)
theorem zf_zm_81_30 (env : List (Nat × Nat)) : zI9 81 zY_81 zm_81 env (84, 10, 3, 0, 0) 85 := zi_istore_n (by decide +kernel : decode zY_81.2.1 84 = .ok (.istore_n 3, 1)) rfl (by decide)
theorem zf_zm_81_31 (env : List (Nat × Nat)) : zI9 81 zY_81 zm_81 env (85, 63, 3, 0, 0) 86 := zi_iload_n (by decide +kernel : decode zY_81.2.1 85 = .ok (.iload_n 3, 1)) rfl
theorem zf_zm_81_32 (env : List (Nat × Nat)) : zI9 81 zY_81 zm_81 env (86, 2, 3, 0, 0) 87 := zi_iconst (by decide +kernel : decode zY_81.2.1 86 = .ok (.iconst 3, 1)) (by decide +kernel)
theorem zf_zm_81_33 (env : List (Nat × Nat)) : zI9 81 zY_81 zm_81 env (87, 28, 43, 0, 0) 90 := zi_icmp_ge (off := 45) (t := 132) (by decide +kernel : decode zY_81.2.1 87 = .ok (.if_icmp .ge 45, 3)) (by decide) (by decide +kernel)
theorem zf_zm_81_34 (env : List (Nat × Nat)) : zI9 81 zY_81 zm_81 env (90, 0, 0, 0, 0) 91 := zi_aload_n (by decide +kernel : decode zY_81.2.1 90 = .ok (.aload_n 0, 1)) rfl
theorem zf_zm_81_35 (env : List (Nat × Nat)) : zI9 81 zY_81 zm_81 env (91, 63, 3, 0, 0) 92 := zi_iload_n (by decide +kernel : decode zY_81.2.1 91 = .ok (.iload_n 3, 1)) rfl
theorem zf_zm_81_36 (env : List (Nat × Nat)) : zC9 81 zm_81 env (92, 66, 80, 132, 4) := zi_call (by decide +kernel) (zr_V (i := 70) (n := 1) (q := ("TransportPair$Book", zF_2, 20)) zX_ok rfl (zgood_80) (by decide +kernel) (zw_T zwd_192) (zw_T zwd_349) (zw_T zwd_350) rfl (zw_T (zt_sel (y := ⟨"TransportPair$Book","probeTime","(I)I"⟩) (n := 20) 72 (by decide +kernel))) ⟨by decide +kernel, by decide +kernel, by decide +kernel⟩ rfl (by decide +kernel : decode (zYf 81).2.1 92 = .ok (.invokevirtual 70, 3)))
theorem zf_zm_81_37 (env : List (Nat × Nat)) : zI9 81 zY_81 zm_81 env (95, 10, 4, 0, 0) 97 := zi_istore (by decide +kernel : decode zY_81.2.1 95 = .ok (.istore 4, 2)) (by decide)
theorem zf_zm_81_38 (env : List (Nat × Nat)) : zI9 81 zY_81 zm_81 env (97, 63, 4, 0, 0) 99 := zi_iload (by decide +kernel : decode zY_81.2.1 97 = .ok (.iload 4, 2))
theorem zf_zm_81_39 (env : List (Nat × Nat)) : zI9 81 zY_81 zm_81 env (99, 22, 41, 0, 0) 102 := zi_if_lt (off := 27) (t := 126) (by decide +kernel : decode zY_81.2.1 99 = .ok (.ifCond .lt 27, 3)) (by decide) (by decide +kernel)
theorem zf_zm_81_40 (env : List (Nat × Nat)) : zI9 81 zY_81 zm_81 env (102, 99, 0, 0, 0) 126 := zi_none
theorem zf_zm_81_41 (env : List (Nat × Nat)) : zI9 81 zY_81 zm_81 env (126, 35, 3, 1, 0) 129 := zi_iinc (by decide +kernel : decode zY_81.2.1 126 = .ok (.iinc 3 1, 3)) (by decide +kernel) (by decide)
theorem zf_zm_81_42 (env : List (Nat × Nat)) : zI9 81 zY_81 zm_81 env (129, 7, 31, 0, 0) 132 := zi_goto (off := (-44)) (t := 85) (by decide +kernel : decode zY_81.2.1 129 = .ok (.goto (-44), 3)) (by decide) (by decide +kernel)
theorem zf_zm_81_43 (env : List (Nat × Nat)) : zI9 81 zY_81 zm_81 env (132, 63, 1, 0, 0) 133 := zi_iload_n (by decide +kernel : decode zY_81.2.1 132 = .ok (.iload_n 1, 1)) rfl
theorem zf_zm_81_44 (env : List (Nat × Nat)) : zI9 81 zY_81 zm_81 env (133, 23, 47, 0, 0) 136 := zi_if_ge (off := 5) (t := 138) (by decide +kernel : decode zY_81.2.1 133 = .ok (.ifCond .ge 5, 3)) (by decide) (by decide +kernel)
theorem zf_zm_81_45 (env : List (Nat × Nat)) : zI9 81 zY_81 zm_81 env (136, 2, 0, 0, 0) 137 := zi_iconst (by decide +kernel : decode zY_81.2.1 136 = .ok (.iconst 0, 1)) (by decide +kernel)
theorem zf_zm_81_46 (env : List (Nat × Nat)) : zR9 81 env (137, 11, 0, 0, 0) := zi_iret (by decide +kernel : decode (zYf 81).2.1 137 = .ok (.ireturn, 1)) rfl
theorem zf_zm_81_47 (env : List (Nat × Nat)) : zI9 81 zY_81 zm_81 env (138, 99, 0, 0, 0) 0 := zi_none
set_option maxRecDepth 100000 in
theorem zc_zm_81 (env : List (Nat × Nat)) : zcode zX (z_QF zEX zcl zft) (z_zm zEX zX zWL zcl zft zYf) zYf zW zET zcl zft (zGv env) 81 zm_81 zm_81.1 := ⟨Or.inl ⟨1, zf_zm_81_0 env, zpc_c⟩,
  Or.inl ⟨2, zf_zm_81_1 env, zpc_c⟩,
  Or.inl ⟨5, zf_zm_81_2 env, zpc_c⟩,
  Or.inl ⟨6, zf_zm_81_3 env, zpc_c⟩,
  Or.inl ⟨7, zf_zm_81_4 env, zpc_c⟩,
  Or.inl ⟨10, zf_zm_81_5 env, zpc_c⟩,
  Or.inl ⟨11, zf_zm_81_6 env, zpc_c⟩,
  Or.inl ⟨12, zf_zm_81_7 env, zpc_c⟩,
  Or.inl ⟨13, zf_zm_81_8 env, zpc_c⟩,
  Or.inl ⟨14, zf_zm_81_9 env, zpc_c⟩,
  Or.inl ⟨15, zf_zm_81_10 env, zpc_c⟩,
  Or.inl ⟨16, zf_zm_81_11 env, zpc_c⟩,
  Or.inl ⟨17, zf_zm_81_12 env, zpc_c⟩,
  Or.inl ⟨18, zf_zm_81_13 env, zpc_c⟩,
  Or.inl ⟨21, zf_zm_81_14 env, zpc_c⟩,
  Or.inl ⟨22, zf_zm_81_15 env, zpc_c⟩,
  Or.inl ⟨25, zf_zm_81_16 env, zpc_c⟩,
  Or.inl ⟨26, zf_zm_81_17 env, zpc_c⟩,
  Or.inl ⟨27, zf_zm_81_18 env, zpc_c⟩,
  Or.inl ⟨30, zf_zm_81_19 env, zpc_c⟩,
  Or.inl ⟨32, zf_zm_81_20 env, zpc_c⟩,
  Or.inl ⟨34, zf_zm_81_21 env, zpc_c⟩,
  Or.inl ⟨37, zf_zm_81_22 env, zpc_c⟩,
  Or.inl ⟨61, zf_zm_81_23 env, zpc_c⟩,
  Or.inl ⟨64, zf_zm_81_24 env, zpc_c⟩,
  Or.inl ⟨67, zf_zm_81_25 env, zpc_c⟩,
  Or.inl ⟨68, zf_zm_81_26 env, zpc_c⟩,
  Or.inl ⟨71, zf_zm_81_27 env, zpc_c⟩,
  Or.inl ⟨83, zf_zm_81_28 env, zpc_c⟩,
  Or.inl ⟨84, zf_zm_81_29 env, zpc_c⟩,
  Or.inl ⟨85, zf_zm_81_30 env, zpc_c⟩,
  Or.inl ⟨86, zf_zm_81_31 env, zpc_c⟩,
  Or.inl ⟨87, zf_zm_81_32 env, zpc_c⟩,
  Or.inl ⟨90, zf_zm_81_33 env, zpc_c⟩,
  Or.inl ⟨91, zf_zm_81_34 env, zpc_c⟩,
  Or.inl ⟨92, zf_zm_81_35 env, zpc_c⟩,
  Or.inr (Or.inr (Or.inl ⟨zf_zm_81_36 env, zpc_c⟩)),
  Or.inl ⟨97, zf_zm_81_37 env, zpc_c⟩,
  Or.inl ⟨99, zf_zm_81_38 env, zpc_c⟩,
  Or.inl ⟨102, zf_zm_81_39 env, zpc_c⟩,
  Or.inl ⟨126, zf_zm_81_40 env, zpc_c⟩,
  Or.inl ⟨129, zf_zm_81_41 env, zpc_c⟩,
  Or.inl ⟨132, zf_zm_81_42 env, zpc_c⟩,
  Or.inl ⟨133, zf_zm_81_43 env, zpc_c⟩,
  Or.inl ⟨136, zf_zm_81_44 env, zpc_c⟩,
  Or.inl ⟨137, zf_zm_81_45 env, zpc_c⟩,
  Or.inr (Or.inl (zf_zm_81_46 env)),
  Or.inl ⟨0, zf_zm_81_47 env, zpc_n⟩, trivial⟩
theorem zf_zm_82_0 (env : List (Nat × Nat)) : zI9 82 zY_82 zm_82 env (0, 0, 0, 0, 0) 1 := zi_aload_n (by decide +kernel : decode zY_82.2.1 0 = .ok (.aload_n 0, 1)) rfl
theorem zf_zm_82_1 (env : List (Nat × Nat)) : zI9 82 zY_82 zm_82 env (1, 60, 0, 0, 0) 4 := zi_obj (i := 1) (by decide +kernel : decode zY_82.2.1 1 = .ok (.invokespecial 1, 3)) (zw_T zwd_365) (zw_T zwd_11) (zw_T zwd_12)
theorem zf_zm_82_2 (env : List (Nat × Nat)) : zI9 82 zY_82 zm_82 env (4, 0, 0, 0, 0) 5 := zi_aload_n (by decide +kernel : decode zY_82.2.1 4 = .ok (.aload_n 0, 1)) rfl
theorem zf_zm_82_3 (env : List (Nat × Nat)) : zI9 82 zY_82 zm_82 env (5, 2, 32, 0, 0) 7 := zi_bipush (by decide +kernel : decode zY_82.2.1 5 = .ok (.bipush 32, 2)) (by decide +kernel)
theorem zf_zm_82_4 (env : List (Nat × Nat)) : zI9 82 zY_82 zm_82 env (7, 12, 0, 1, 0) 9 := zi_newI (by decide +kernel : decode zY_82.2.1 7 = .ok (.newarray .byte, 2)) (zw_T zwd_79) rfl rfl (by decide) rfl
theorem zf_zm_82_5 (env : List (Nat × Nat)) : zI9 82 zY_82 zm_82 env (9, 4, 3, 1, 2) 12 := zi_putfF (i := 7) (N := 22) (C := "TransportPair$Greeting") (ref := "TransportPair$Greeting") (T := zF_3) (by decide +kernel : decode zY_82.2.1 9 = .ok (.putfield 7, 3)) rfl zuw_3 zFt_3 zFn_3 (by decide) (zw_T zwd_366) rfl rfl rfl rfl (ty := .array .byte) (by decide +kernel) (Or.inr ⟨_, rfl⟩)
theorem zf_zm_82_6 (env : List (Nat × Nat)) : zI9 82 zY_82 zm_82 env (12, 0, 0, 0, 0) 13 := zi_aload_n (by decide +kernel : decode zY_82.2.1 12 = .ok (.aload_n 0, 1)) rfl
theorem zf_zm_82_7 (env : List (Nat × Nat)) : zI9 82 zY_82 zm_82 env (13, 2, 32, 0, 0) 15 := zi_bipush (by decide +kernel : decode zY_82.2.1 13 = .ok (.bipush 32, 2)) (by decide +kernel)
theorem zf_zm_82_8 (env : List (Nat × Nat)) : zI9 82 zY_82 zm_82 env (15, 12, 0, 1, 0) 17 := zi_newI (by decide +kernel : decode zY_82.2.1 15 = .ok (.newarray .byte, 2)) (zw_T zwd_79) rfl rfl (by decide) rfl
theorem zf_zm_82_9 (env : List (Nat × Nat)) : zI9 82 zY_82 zm_82 env (17, 4, 3, 2, 2) 20 := zi_putfF (i := 13) (N := 22) (C := "TransportPair$Greeting") (ref := "TransportPair$Greeting") (T := zF_3) (by decide +kernel : decode zY_82.2.1 17 = .ok (.putfield 13, 3)) rfl zuw_3 zFt_3 zFn_3 (by decide) (zw_T zwd_367) rfl rfl rfl rfl (ty := .array .byte) (by decide +kernel) (Or.inr ⟨_, rfl⟩)
theorem zf_zm_82_10 (env : List (Nat × Nat)) : zI9 82 zY_82 zm_82 env (20, 0, 0, 0, 0) 21 := zi_aload_n (by decide +kernel : decode zY_82.2.1 20 = .ok (.aload_n 0, 1)) rfl
theorem zf_zm_82_11 (env : List (Nat × Nat)) : zI9 82 zY_82 zm_82 env (21, 2, 4294967295, 0, 0) 22 := zi_iconst (by decide +kernel : decode zY_82.2.1 21 = .ok (.iconst (-1), 1)) (by decide +kernel)
theorem zf_zm_82_12 (env : List (Nat × Nat)) : zI9 82 zY_82 zm_82 env (22, 4, 3, 7, 0) 25 := zi_putf (i := 16) (N := 22) (C := "TransportPair$Greeting") (ref := "TransportPair$Greeting") (T := zF_3) (by decide +kernel : decode zY_82.2.1 22 = .ok (.putfield 16, 3)) rfl zuw_3 zFt_3 zFn_3 (by decide) (zw_T zwd_368) rfl rfl (ty := .int) (by decide +kernel) (rfl)
theorem zf_zm_82_13 (env : List (Nat × Nat)) : zI9 82 zY_82 zm_82 env (25, 0, 0, 0, 0) 26 := zi_aload_n (by decide +kernel : decode zY_82.2.1 25 = .ok (.aload_n 0, 1)) rfl
theorem zf_zm_82_14 (env : List (Nat × Nat)) : zI9 82 zY_82 zm_82 env (26, 2, 6, 0, 0) 28 := zi_bipush (by decide +kernel : decode zY_82.2.1 26 = .ok (.bipush 6, 2)) (by decide +kernel)
theorem zf_zm_82_15 (env : List (Nat × Nat)) : zI9 82 zY_82 zm_82 env (28, 2, 32, 0, 0) 30 := zi_bipush (by decide +kernel : decode zY_82.2.1 28 = .ok (.bipush 32, 2)) (by decide +kernel)
theorem zf_zm_82_16 (env : List (Nat × Nat)) : zI9 82 zY_82 zm_82 env (30, 45, 8, 1, 0) 34 := zi_multi (i := 20) (ty := .byte) (by decide +kernel : decode zY_82.2.1 30 = .ok (.multianewarray 20 2, 4)) (zw_T zwd_369) (zw_N zwd_370) (zw_T zwd_79) rfl rfl rfl (by decide) rfl (fun _ _ h => h)
theorem zf_zm_82_17 (env : List (Nat × Nat)) : zI9 82 zY_82 zm_82 env (34, 4, 3, 9, 2) 37 := zi_putfF (i := 22) (N := 22) (C := "TransportPair$Greeting") (ref := "TransportPair$Greeting") (T := zF_3) (by decide +kernel : decode zY_82.2.1 34 = .ok (.putfield 22, 3)) rfl zuw_3 zFt_3 zFn_3 (by decide) (zw_T zwd_371) rfl rfl rfl rfl (ty := .array (.array .byte)) (by decide +kernel) (Or.inr ⟨_, rfl⟩)
theorem zf_zm_82_18 (env : List (Nat × Nat)) : zI9 82 zY_82 zm_82 env (37, 0, 0, 0, 0) 38 := zi_aload_n (by decide +kernel : decode zY_82.2.1 37 = .ok (.aload_n 0, 1)) rfl
theorem zf_zm_82_19 (env : List (Nat × Nat)) : zI9 82 zY_82 zm_82 env (38, 2, 32, 0, 0) 40 := zi_bipush (by decide +kernel : decode zY_82.2.1 38 = .ok (.bipush 32, 2)) (by decide +kernel)
theorem zf_zm_82_20 (env : List (Nat × Nat)) : zI9 82 zY_82 zm_82 env (40, 12, 0, 1, 0) 42 := zi_newI (by decide +kernel : decode zY_82.2.1 40 = .ok (.newarray .byte, 2)) (zw_T zwd_79) rfl rfl (by decide) rfl
theorem zf_zm_82_21 (env : List (Nat × Nat)) : zI9 82 zY_82 zm_82 env (42, 4, 3, 10, 2) 45 := zi_putfF (i := 25) (N := 22) (C := "TransportPair$Greeting") (ref := "TransportPair$Greeting") (T := zF_3) (by decide +kernel : decode zY_82.2.1 42 = .ok (.putfield 25, 3)) rfl zuw_3 zFt_3 zFn_3 (by decide) (zw_T zwd_372) rfl rfl rfl rfl (ty := .array .byte) (by decide +kernel) (Or.inr ⟨_, rfl⟩)
theorem zf_zm_82_22 (env : List (Nat × Nat)) : zI9 82 zY_82 zm_82 env (45, 0, 0, 0, 0) 46 := zi_aload_n (by decide +kernel : decode zY_82.2.1 45 = .ok (.aload_n 0, 1)) rfl
theorem zf_zm_82_23 (env : List (Nat × Nat)) : zI9 82 zY_82 zm_82 env (46, 2, 32, 0, 0) 48 := zi_bipush (by decide +kernel : decode zY_82.2.1 46 = .ok (.bipush 32, 2)) (by decide +kernel)
theorem zf_zm_82_24 (env : List (Nat × Nat)) : zI9 82 zY_82 zm_82 env (48, 12, 0, 1, 0) 50 := zi_newI (by decide +kernel : decode zY_82.2.1 48 = .ok (.newarray .byte, 2)) (zw_T zwd_79) rfl rfl (by decide) rfl
theorem zf_zm_82_25 (env : List (Nat × Nat)) : zI9 82 zY_82 zm_82 env (50, 4, 3, 11, 2) 53 := zi_putfF (i := 28) (N := 22) (C := "TransportPair$Greeting") (ref := "TransportPair$Greeting") (T := zF_3) (by decide +kernel : decode zY_82.2.1 50 = .ok (.putfield 28, 3)) rfl zuw_3 zFt_3 zFn_3 (by decide) (zw_T zwd_373) rfl rfl rfl rfl (ty := .array .byte) (by decide +kernel) (Or.inr ⟨_, rfl⟩)
theorem zf_zm_82_26 (env : List (Nat × Nat)) : zI9 82 zY_82 zm_82 env (53, 0, 0, 0, 0) 54 := zi_aload_n (by decide +kernel : decode zY_82.2.1 53 = .ok (.aload_n 0, 1)) rfl
theorem zf_zm_82_27 (env : List (Nat × Nat)) : zI9 82 zY_82 zm_82 env (54, 2, 32, 0, 0) 56 := zi_bipush (by decide +kernel : decode zY_82.2.1 54 = .ok (.bipush 32, 2)) (by decide +kernel)
theorem zf_zm_82_28 (env : List (Nat × Nat)) : zI9 82 zY_82 zm_82 env (56, 12, 0, 1, 0) 58 := zi_newI (by decide +kernel : decode zY_82.2.1 56 = .ok (.newarray .byte, 2)) (zw_T zwd_79) rfl rfl (by decide) rfl
theorem zf_zm_82_29 (env : List (Nat × Nat)) : zI9 82 zY_82 zm_82 env (58, 4, 3, 12, 2) 61 := zi_putfF (i := 31) (N := 22) (C := "TransportPair$Greeting") (ref := "TransportPair$Greeting") (T := zF_3) (by decide +kernel : decode zY_82.2.1 58 = .ok (.putfield 31, 3)) rfl zuw_3 zFt_3 zFn_3 (by decide) (zw_T zwd_374) rfl rfl rfl rfl (ty := .array .byte) (by decide +kernel) (Or.inr ⟨_, rfl⟩)
theorem zf_zm_82_30 (env : List (Nat × Nat)) : zI9 82 zY_82 zm_82 env (61, 0, 0, 0, 0) 62 := zi_aload_n (by decide +kernel : decode zY_82.2.1 61 = .ok (.aload_n 0, 1)) rfl
theorem zf_zm_82_31 (env : List (Nat × Nat)) : zI9 82 zY_82 zm_82 env (62, 2, 32, 0, 0) 64 := zi_bipush (by decide +kernel : decode zY_82.2.1 62 = .ok (.bipush 32, 2)) (by decide +kernel)
theorem zf_zm_82_32 (env : List (Nat × Nat)) : zI9 82 zY_82 zm_82 env (64, 12, 0, 1, 0) 66 := zi_newI (by decide +kernel : decode zY_82.2.1 64 = .ok (.newarray .byte, 2)) (zw_T zwd_79) rfl rfl (by decide) rfl
theorem zf_zm_82_33 (env : List (Nat × Nat)) : zI9 82 zY_82 zm_82 env (66, 4, 3, 13, 2) 69 := zi_putfF (i := 34) (N := 22) (C := "TransportPair$Greeting") (ref := "TransportPair$Greeting") (T := zF_3) (by decide +kernel : decode zY_82.2.1 66 = .ok (.putfield 34, 3)) rfl zuw_3 zFt_3 zFn_3 (by decide) (zw_T zwd_375) rfl rfl rfl rfl (ty := .array .byte) (by decide +kernel) (Or.inr ⟨_, rfl⟩)
theorem zf_zm_82_34 (env : List (Nat × Nat)) : zI9 82 zY_82 zm_82 env (69, 0, 0, 0, 0) 70 := zi_aload_n (by decide +kernel : decode zY_82.2.1 69 = .ok (.aload_n 0, 1)) rfl
theorem zf_zm_82_35 (env : List (Nat × Nat)) : zI9 82 zY_82 zm_82 env (70, 2, 768, 0, 0) 73 := zi_sipush (by decide +kernel : decode zY_82.2.1 70 = .ok (.sipush 768, 3)) (by decide +kernel)
theorem zf_zm_82_36 (env : List (Nat × Nat)) : zI9 82 zY_82 zm_82 env (73, 12, 0, 1, 0) 75 := zi_newI (by decide +kernel : decode zY_82.2.1 73 = .ok (.newarray .byte, 2)) (zw_T zwd_79) rfl rfl (by decide) rfl
theorem zf_zm_82_37 (env : List (Nat × Nat)) : zI9 82 zY_82 zm_82 env (75, 4, 3, 14, 2) 78 := zi_putfF (i := 37) (N := 22) (C := "TransportPair$Greeting") (ref := "TransportPair$Greeting") (T := zF_3) (by decide +kernel : decode zY_82.2.1 75 = .ok (.putfield 37, 3)) rfl zuw_3 zFt_3 zFn_3 (by decide) (zw_T zwd_376) rfl rfl rfl rfl (ty := .array .byte) (by decide +kernel) (Or.inr ⟨_, rfl⟩)
theorem zf_zm_82_38 (env : List (Nat × Nat)) : zI9 82 zY_82 zm_82 env (78, 0, 0, 0, 0) 79 := zi_aload_n (by decide +kernel : decode zY_82.2.1 78 = .ok (.aload_n 0, 1)) rfl
theorem zf_zm_82_39 (env : List (Nat × Nat)) : zI9 82 zY_82 zm_82 env (79, 2, 332, 0, 0) 82 := zi_sipush (by decide +kernel : decode zY_82.2.1 79 = .ok (.sipush 332, 3)) (by decide +kernel)
theorem zf_zm_82_40 (env : List (Nat × Nat)) : zI9 82 zY_82 zm_82 env (82, 12, 0, 1, 0) 84 := zi_newI (by decide +kernel : decode zY_82.2.1 82 = .ok (.newarray .byte, 2)) (zw_T zwd_79) rfl rfl (by decide) rfl
theorem zf_zm_82_41 (env : List (Nat × Nat)) : zI9 82 zY_82 zm_82 env (84, 4, 3, 16, 2) 87 := zi_putfF (i := 40) (N := 22) (C := "TransportPair$Greeting") (ref := "TransportPair$Greeting") (T := zF_3) (by decide +kernel : decode zY_82.2.1 84 = .ok (.putfield 40, 3)) rfl zuw_3 zFt_3 zFn_3 (by decide) (zw_T zwd_377) rfl rfl rfl rfl (ty := .array .byte) (by decide +kernel) (Or.inr ⟨_, rfl⟩)
theorem zf_zm_82_42 (env : List (Nat × Nat)) : zI9 82 zY_82 zm_82 env (87, 0, 0, 0, 0) 88 := zi_aload_n (by decide +kernel : decode zY_82.2.1 87 = .ok (.aload_n 0, 1)) rfl
theorem zf_zm_82_43 (env : List (Nat × Nat)) : zI9 82 zY_82 zm_82 env (88, 2, 300, 0, 0) 91 := zi_sipush (by decide +kernel : decode zY_82.2.1 88 = .ok (.sipush 300, 3)) (by decide +kernel)
theorem zf_zm_82_44 (env : List (Nat × Nat)) : zI9 82 zY_82 zm_82 env (91, 12, 0, 1, 0) 93 := zi_newI (by decide +kernel : decode zY_82.2.1 91 = .ok (.newarray .byte, 2)) (zw_T zwd_79) rfl rfl (by decide) rfl
theorem zf_zm_82_45 (env : List (Nat × Nat)) : zI9 82 zY_82 zm_82 env (93, 4, 3, 18, 2) 96 := zi_putfF (i := 43) (N := 22) (C := "TransportPair$Greeting") (ref := "TransportPair$Greeting") (T := zF_3) (by decide +kernel : decode zY_82.2.1 93 = .ok (.putfield 43, 3)) rfl zuw_3 zFt_3 zFn_3 (by decide) (zw_T zwd_378) rfl rfl rfl rfl (ty := .array .byte) (by decide +kernel) (Or.inr ⟨_, rfl⟩)
theorem zf_zm_82_46 (env : List (Nat × Nat)) : zI9 82 zY_82 zm_82 env (96, 0, 0, 0, 0) 97 := zi_aload_n (by decide +kernel : decode zY_82.2.1 96 = .ok (.aload_n 0, 1)) rfl
theorem zf_zm_82_47 (env : List (Nat × Nat)) : zI9 82 zY_82 zm_82 env (97, 2, 4294967295, 0, 0) 98 := zi_iconst (by decide +kernel : decode zY_82.2.1 97 = .ok (.iconst (-1), 1)) (by decide +kernel)
theorem zf_zm_82_48 (env : List (Nat × Nat)) : zI9 82 zY_82 zm_82 env (98, 4, 3, 19, 0) 101 := zi_putf (i := 46) (N := 22) (C := "TransportPair$Greeting") (ref := "TransportPair$Greeting") (T := zF_3) (by decide +kernel : decode zY_82.2.1 98 = .ok (.putfield 46, 3)) rfl zuw_3 zFt_3 zFn_3 (by decide) (zw_T zwd_379) rfl rfl (ty := .int) (by decide +kernel) (rfl)
theorem zf_zm_82_49 (env : List (Nat × Nat)) : zI9 82 zY_82 zm_82 env (101, 0, 0, 0, 0) 102 := zi_aload_n (by decide +kernel : decode zY_82.2.1 101 = .ok (.aload_n 0, 1)) rfl
theorem zf_zm_82_50 (env : List (Nat × Nat)) : zI9 82 zY_82 zm_82 env (102, 2, 2, 0, 0) 103 := zi_iconst (by decide +kernel : decode zY_82.2.1 102 = .ok (.iconst 2, 1)) (by decide +kernel)
theorem zf_zm_82_51 (env : List (Nat × Nat)) : zI9 82 zY_82 zm_82 env (103, 38, 0, 9, 0) 106 := zi_newA (i := 49) (C := "TransportPair$Sending") (by decide +kernel : decode zY_82.2.1 103 = .ok (.anewarray 49, 3)) (zw_T zwd_380) (zw_N zwd_381) (fun _ _ _ h => h) rfl
theorem zf_zm_82_52 (env : List (Nat × Nat)) : zI9 82 zY_82 zm_82 env (106, 13, 0, 0, 0) 107 := zi_dup (by decide +kernel : decode zY_82.2.1 106 = .ok (.dup, 1))
theorem zf_zm_82_53 (env : List (Nat × Nat)) : zI9 82 zY_82 zm_82 env (107, 2, 0, 0, 0) 108 := zi_iconst (by decide +kernel : decode zY_82.2.1 107 = .ok (.iconst 0, 1)) (by decide +kernel)
theorem zf_zm_82_54 (env : List (Nat × Nat)) : zI9 82 zY_82 zm_82 env (108, 17, 9, 0, 15) 111 := zi_new (i := 49) (N := 15) (C := "TransportPair$Sending") (T := zF_9) (ds := [0, 2, 2, 0, 0, 1, 1, 0, 0, 0, 0, 0, 1, 0, 0]) (by decide +kernel : decode zY_82.2.1 108 = .ok (.new 49, 3)) rfl zuw_9 zFt_9 (zw_T zwd_380) (zw_T zwd_382) (zw_T zwd_121) rfl rfl rfl zFd_9
theorem zf_zm_82_55 (env : List (Nat × Nat)) : zI9 82 zY_82 zm_82 env (111, 13, 0, 0, 0) 112 := zi_dup (by decide +kernel : decode zY_82.2.1 111 = .ok (.dup, 1))
theorem zf_zm_82_56 (env : List (Nat × Nat)) : zI9 82 zY_82 zm_82 env (112, 15, 4611686018427387903, 0, 0) 115 := zi_ldc2 (v := 4611686018427387903) (by decide +kernel : decode zY_82.2.1 112 = .ok (.ldc2_w 53, 3)) (by decide +kernel) (zw_T zwd_383)
theorem zf_zm_82_57 (env : List (Nat × Nat)) : zC9 82 zm_82 env (115, 66, 89, 131, 1) := zi_call (by decide +kernel) (zr_I (i := 55) (n := 1) zX_ok rfl (zgood_89) (by decide +kernel) (zw_T zwd_121) (zw_T zwd_384) rfl (zw_T zwd_385) rfl ⟨by decide +kernel, by decide +kernel, by decide +kernel⟩ rfl (by decide +kernel : decode (zYf 82).2.1 115 = .ok (.invokespecial 55, 3)))
theorem zf_zm_82_58 (env : List (Nat × Nat)) : zI9 82 zY_82 zm_82 env (118, 33, 0, 0, 0) 119 := zi_aast zft_all (by decide +kernel : decode zY_82.2.1 118 = .ok (.aastore, 1))
theorem zf_zm_82_59 (env : List (Nat × Nat)) : zI9 82 zY_82 zm_82 env (119, 13, 0, 0, 0) 120 := zi_dup (by decide +kernel : decode zY_82.2.1 119 = .ok (.dup, 1))
theorem zf_zm_82_60 (env : List (Nat × Nat)) : zI9 82 zY_82 zm_82 env (120, 2, 1, 0, 0) 121 := zi_iconst (by decide +kernel : decode zY_82.2.1 120 = .ok (.iconst 1, 1)) (by decide +kernel)
theorem zf_zm_82_61 (env : List (Nat × Nat)) : zI9 82 zY_82 zm_82 env (121, 17, 9, 0, 15) 124 := zi_new (i := 49) (N := 15) (C := "TransportPair$Sending") (T := zF_9) (ds := [0, 2, 2, 0, 0, 1, 1, 0, 0, 0, 0, 0, 1, 0, 0]) (by decide +kernel : decode zY_82.2.1 121 = .ok (.new 49, 3)) rfl zuw_9 zFt_9 (zw_T zwd_380) (zw_T zwd_382) (zw_T zwd_121) rfl rfl rfl zFd_9
theorem zf_zm_82_62 (env : List (Nat × Nat)) : zI9 82 zY_82 zm_82 env (124, 13, 0, 0, 0) 125 := zi_dup (by decide +kernel : decode zY_82.2.1 124 = .ok (.dup, 1))
theorem zf_zm_82_63 (env : List (Nat × Nat)) : zI9 82 zY_82 zm_82 env (125, 15, 4611686018427387903, 0, 0) 128 := zi_ldc2 (v := 4611686018427387903) (by decide +kernel : decode zY_82.2.1 125 = .ok (.ldc2_w 53, 3)) (by decide +kernel) (zw_T zwd_383)
theorem zf_zm_82_64 (env : List (Nat × Nat)) : zC9 82 zm_82 env (128, 66, 89, 131, 1) := zi_call (by decide +kernel) (zr_I (i := 55) (n := 1) zX_ok rfl (zgood_89) (by decide +kernel) (zw_T zwd_121) (zw_T zwd_384) rfl (zw_T zwd_385) rfl ⟨by decide +kernel, by decide +kernel, by decide +kernel⟩ rfl (by decide +kernel : decode (zYf 82).2.1 128 = .ok (.invokespecial 55, 3)))
theorem zf_zm_82_65 (env : List (Nat × Nat)) : zI9 82 zY_82 zm_82 env (131, 33, 0, 0, 0) 132 := zi_aast zft_all (by decide +kernel : decode zY_82.2.1 131 = .ok (.aastore, 1))
theorem zf_zm_82_66 (env : List (Nat × Nat)) : zI9 82 zY_82 zm_82 env (132, 4, 3, 20, 2) 135 := zi_putfF (i := 58) (N := 22) (C := "TransportPair$Greeting") (ref := "TransportPair$Greeting") (T := zF_3) (by decide +kernel : decode zY_82.2.1 132 = .ok (.putfield 58, 3)) rfl zuw_3 zFt_3 zFn_3 (by decide) (zw_T zwd_386) rfl rfl rfl rfl (ty := .array (.object "TransportPair$Sending")) (by decide +kernel) (Or.inr ⟨_, rfl⟩)
theorem zf_zm_82_67 (env : List (Nat × Nat)) : zI9 82 zY_82 zm_82 env (135, 0, 0, 0, 0) 136 := zi_aload_n (by decide +kernel : decode zY_82.2.1 135 = .ok (.aload_n 0, 1)) rfl
theorem zf_zm_82_68 (env : List (Nat × Nat)) : zI9 82 zY_82 zm_82 env (136, 2, 2, 0, 0) 137 := zi_iconst (by decide +kernel : decode zY_82.2.1 136 = .ok (.iconst 2, 1)) (by decide +kernel)
theorem zf_zm_82_69 (env : List (Nat × Nat)) : zI9 82 zY_82 zm_82 env (137, 38, 0, 10, 0) 140 := zi_newA (i := 62) (C := "TransportPair$Receiving") (by decide +kernel : decode zY_82.2.1 137 = .ok (.anewarray 62, 3)) (zw_T zwd_387) (zw_N zwd_388) (fun _ _ _ h => h) rfl
theorem zf_zm_82_70 (env : List (Nat × Nat)) : zI9 82 zY_82 zm_82 env (140, 13, 0, 0, 0) 141 := zi_dup (by decide +kernel : decode zY_82.2.1 140 = .ok (.dup, 1))
theorem zf_zm_82_71 (env : List (Nat × Nat)) : zI9 82 zY_82 zm_82 env (141, 2, 0, 0, 0) 142 := zi_iconst (by decide +kernel : decode zY_82.2.1 141 = .ok (.iconst 0, 1)) (by decide +kernel)
theorem zf_zm_82_72 (env : List (Nat × Nat)) : zI9 82 zY_82 zm_82 env (142, 17, 7, 0, 13) 145 := zi_new (i := 62) (N := 13) (C := "TransportPair$Receiving") (T := zF_7) (ds := [0, 2, 2, 0, 0, 0, 0, 0, 1, 0, 0, 0, 0]) (by decide +kernel : decode zY_82.2.1 142 = .ok (.new 62, 3)) rfl zuw_7 zFt_7 (zw_T zwd_387) (zw_T zwd_389) (zw_T zwd_390) rfl rfl rfl zFd_7
theorem zf_zm_82_73 (env : List (Nat × Nat)) : zI9 82 zY_82 zm_82 env (145, 13, 0, 0, 0) 146 := zi_dup (by decide +kernel : decode zY_82.2.1 145 = .ok (.dup, 1))
theorem zf_zm_82_74 (env : List (Nat × Nat)) : zI9 82 zY_82 zm_82 env (146, 2, 0, 0, 0) 147 := zi_iconst (by decide +kernel : decode zY_82.2.1 146 = .ok (.iconst 0, 1)) (by decide +kernel)
theorem zf_zm_82_75 (env : List (Nat × Nat)) : zC9 82 zm_82 env (147, 66, 87, 130, 1) := zi_call (by decide +kernel) (zr_I (i := 64) (n := 1) zX_ok rfl (zgood_87) (by decide +kernel) (zw_T zwd_390) (zw_T zwd_391) rfl (zw_T zwd_392) rfl ⟨by decide +kernel, by decide +kernel, by decide +kernel⟩ rfl (by decide +kernel : decode (zYf 82).2.1 147 = .ok (.invokespecial 64, 3)))
theorem zf_zm_82_76 (env : List (Nat × Nat)) : zI9 82 zY_82 zm_82 env (150, 33, 0, 0, 0) 151 := zi_aast zft_all (by decide +kernel : decode zY_82.2.1 150 = .ok (.aastore, 1))
theorem zf_zm_82_77 (env : List (Nat × Nat)) : zI9 82 zY_82 zm_82 env (151, 13, 0, 0, 0) 152 := zi_dup (by decide +kernel : decode zY_82.2.1 151 = .ok (.dup, 1))
theorem zf_zm_82_78 (env : List (Nat × Nat)) : zI9 82 zY_82 zm_82 env (152, 2, 1, 0, 0) 153 := zi_iconst (by decide +kernel : decode zY_82.2.1 152 = .ok (.iconst 1, 1)) (by decide +kernel)
theorem zf_zm_82_79 (env : List (Nat × Nat)) : zI9 82 zY_82 zm_82 env (153, 17, 7, 0, 13) 156 := zi_new (i := 62) (N := 13) (C := "TransportPair$Receiving") (T := zF_7) (ds := [0, 2, 2, 0, 0, 0, 0, 0, 1, 0, 0, 0, 0]) (by decide +kernel : decode zY_82.2.1 153 = .ok (.new 62, 3)) rfl zuw_7 zFt_7 (zw_T zwd_387) (zw_T zwd_389) (zw_T zwd_390) rfl rfl rfl zFd_7
theorem zf_zm_82_80 (env : List (Nat × Nat)) : zI9 82 zY_82 zm_82 env (156, 13, 0, 0, 0) 157 := zi_dup (by decide +kernel : decode zY_82.2.1 156 = .ok (.dup, 1))
theorem zf_zm_82_81 (env : List (Nat × Nat)) : zI9 82 zY_82 zm_82 env (157, 2, 0, 0, 0) 158 := zi_iconst (by decide +kernel : decode zY_82.2.1 157 = .ok (.iconst 0, 1)) (by decide +kernel)
theorem zf_zm_82_82 (env : List (Nat × Nat)) : zC9 82 zm_82 env (158, 66, 87, 130, 1) := zi_call (by decide +kernel) (zr_I (i := 64) (n := 1) zX_ok rfl (zgood_87) (by decide +kernel) (zw_T zwd_390) (zw_T zwd_391) rfl (zw_T zwd_392) rfl ⟨by decide +kernel, by decide +kernel, by decide +kernel⟩ rfl (by decide +kernel : decode (zYf 82).2.1 158 = .ok (.invokespecial 64, 3)))
theorem zf_zm_82_83 (env : List (Nat × Nat)) : zI9 82 zY_82 zm_82 env (161, 33, 0, 0, 0) 162 := zi_aast zft_all (by decide +kernel : decode zY_82.2.1 161 = .ok (.aastore, 1))
theorem zf_zm_82_84 (env : List (Nat × Nat)) : zI9 82 zY_82 zm_82 env (162, 4, 3, 21, 2) 165 := zi_putfF (i := 67) (N := 22) (C := "TransportPair$Greeting") (ref := "TransportPair$Greeting") (T := zF_3) (by decide +kernel : decode zY_82.2.1 162 = .ok (.putfield 67, 3)) rfl zuw_3 zFt_3 zFn_3 (by decide) (zw_T zwd_393) rfl rfl rfl rfl (ty := .array (.object "TransportPair$Receiving")) (by decide +kernel) (Or.inr ⟨_, rfl⟩)
theorem zf_zm_82_85 (env : List (Nat × Nat)) : zI9 82 zY_82 zm_82 env (165, 0, 0, 0, 0) 166 := zi_aload_n (by decide +kernel : decode zY_82.2.1 165 = .ok (.aload_n 0, 1)) rfl
theorem zf_zm_82_86 (env : List (Nat × Nat)) : zI9 82 zY_82 zm_82 env (166, 0, 1, 0, 0) 167 := zi_aload_n (by decide +kernel : decode zY_82.2.1 166 = .ok (.aload_n 1, 1)) rfl
theorem zf_zm_82_87 (env : List (Nat × Nat)) : zI9 82 zY_82 zm_82 env (167, 4, 3, 0, 2) 170 := zi_putfF (i := 71) (N := 22) (C := "TransportPair$Greeting") (ref := "TransportPair$Greeting") (T := zF_3) (by decide +kernel : decode zY_82.2.1 167 = .ok (.putfield 71, 3)) rfl zuw_3 zFt_3 zFn_3 (by decide) (zw_T zwd_394) rfl rfl rfl rfl (ty := .object "TransportPair$Seals") (by decide +kernel) (Or.inl ⟨_, rfl⟩)
theorem zf_zm_82_88 (env : List (Nat × Nat)) : zR9 82 env (170, 21, 0, 0, 0) := zi_vret (by decide +kernel : decode (zYf 82).2.1 170 = .ok (.return_, 1)) rfl
set_option maxRecDepth 100000 in
theorem zc_zm_82 (env : List (Nat × Nat)) : zcode zX (z_QF zEX zcl zft) (z_zm zEX zX zWL zcl zft zYf) zYf zW zET zcl zft (zGv env) 82 zm_82 zm_82.1 := ⟨Or.inl ⟨1, zf_zm_82_0 env, zpc_c⟩,
  Or.inl ⟨4, zf_zm_82_1 env, zpc_c⟩,
  Or.inl ⟨5, zf_zm_82_2 env, zpc_c⟩,
  Or.inl ⟨7, zf_zm_82_3 env, zpc_c⟩,
  Or.inl ⟨9, zf_zm_82_4 env, zpc_c⟩,
  Or.inl ⟨12, zf_zm_82_5 env, zpc_c⟩,
  Or.inl ⟨13, zf_zm_82_6 env, zpc_c⟩,
  Or.inl ⟨15, zf_zm_82_7 env, zpc_c⟩,
  Or.inl ⟨17, zf_zm_82_8 env, zpc_c⟩,
  Or.inl ⟨20, zf_zm_82_9 env, zpc_c⟩,
  Or.inl ⟨21, zf_zm_82_10 env, zpc_c⟩,
  Or.inl ⟨22, zf_zm_82_11 env, zpc_c⟩,
  Or.inl ⟨25, zf_zm_82_12 env, zpc_c⟩,
  Or.inl ⟨26, zf_zm_82_13 env, zpc_c⟩,
  Or.inl ⟨28, zf_zm_82_14 env, zpc_c⟩,
  Or.inl ⟨30, zf_zm_82_15 env, zpc_c⟩,
  Or.inl ⟨34, zf_zm_82_16 env, zpc_c⟩,
  Or.inl ⟨37, zf_zm_82_17 env, zpc_c⟩,
  Or.inl ⟨38, zf_zm_82_18 env, zpc_c⟩,
  Or.inl ⟨40, zf_zm_82_19 env, zpc_c⟩,
  Or.inl ⟨42, zf_zm_82_20 env, zpc_c⟩,
  Or.inl ⟨45, zf_zm_82_21 env, zpc_c⟩,
  Or.inl ⟨46, zf_zm_82_22 env, zpc_c⟩,
  Or.inl ⟨48, zf_zm_82_23 env, zpc_c⟩,
  Or.inl ⟨50, zf_zm_82_24 env, zpc_c⟩,
  Or.inl ⟨53, zf_zm_82_25 env, zpc_c⟩,
  Or.inl ⟨54, zf_zm_82_26 env, zpc_c⟩,
  Or.inl ⟨56, zf_zm_82_27 env, zpc_c⟩,
  Or.inl ⟨58, zf_zm_82_28 env, zpc_c⟩,
  Or.inl ⟨61, zf_zm_82_29 env, zpc_c⟩,
  Or.inl ⟨62, zf_zm_82_30 env, zpc_c⟩,
  Or.inl ⟨64, zf_zm_82_31 env, zpc_c⟩,
  Or.inl ⟨66, zf_zm_82_32 env, zpc_c⟩,
  Or.inl ⟨69, zf_zm_82_33 env, zpc_c⟩,
  Or.inl ⟨70, zf_zm_82_34 env, zpc_c⟩,
  Or.inl ⟨73, zf_zm_82_35 env, zpc_c⟩,
  Or.inl ⟨75, zf_zm_82_36 env, zpc_c⟩,
  Or.inl ⟨78, zf_zm_82_37 env, zpc_c⟩,
  Or.inl ⟨79, zf_zm_82_38 env, zpc_c⟩,
  Or.inl ⟨82, zf_zm_82_39 env, zpc_c⟩,
  Or.inl ⟨84, zf_zm_82_40 env, zpc_c⟩,
  Or.inl ⟨87, zf_zm_82_41 env, zpc_c⟩,
  Or.inl ⟨88, zf_zm_82_42 env, zpc_c⟩,
  Or.inl ⟨91, zf_zm_82_43 env, zpc_c⟩,
  Or.inl ⟨93, zf_zm_82_44 env, zpc_c⟩,
  Or.inl ⟨96, zf_zm_82_45 env, zpc_c⟩,
  Or.inl ⟨97, zf_zm_82_46 env, zpc_c⟩,
  Or.inl ⟨98, zf_zm_82_47 env, zpc_c⟩,
  Or.inl ⟨101, zf_zm_82_48 env, zpc_c⟩,
  Or.inl ⟨102, zf_zm_82_49 env, zpc_c⟩,
  Or.inl ⟨103, zf_zm_82_50 env, zpc_c⟩,
  Or.inl ⟨106, zf_zm_82_51 env, zpc_c⟩,
  Or.inl ⟨107, zf_zm_82_52 env, zpc_c⟩,
  Or.inl ⟨108, zf_zm_82_53 env, zpc_c⟩,
  Or.inl ⟨111, zf_zm_82_54 env, zpc_c⟩,
  Or.inl ⟨112, zf_zm_82_55 env, zpc_c⟩,
  Or.inl ⟨115, zf_zm_82_56 env, zpc_c⟩,
  Or.inr (Or.inr (Or.inl ⟨zf_zm_82_57 env, zpc_c⟩)),
  Or.inl ⟨119, zf_zm_82_58 env, zpc_c⟩,
  Or.inl ⟨120, zf_zm_82_59 env, zpc_c⟩,
  Or.inl ⟨121, zf_zm_82_60 env, zpc_c⟩,
  Or.inl ⟨124, zf_zm_82_61 env, zpc_c⟩,
  Or.inl ⟨125, zf_zm_82_62 env, zpc_c⟩,
  Or.inl ⟨128, zf_zm_82_63 env, zpc_c⟩,
  Or.inr (Or.inr (Or.inl ⟨zf_zm_82_64 env, zpc_c⟩)),
  Or.inl ⟨132, zf_zm_82_65 env, zpc_c⟩,
  Or.inl ⟨135, zf_zm_82_66 env, zpc_c⟩,
  Or.inl ⟨136, zf_zm_82_67 env, zpc_c⟩,
  Or.inl ⟨137, zf_zm_82_68 env, zpc_c⟩,
  Or.inl ⟨140, zf_zm_82_69 env, zpc_c⟩,
  Or.inl ⟨141, zf_zm_82_70 env, zpc_c⟩,
  Or.inl ⟨142, zf_zm_82_71 env, zpc_c⟩,
  Or.inl ⟨145, zf_zm_82_72 env, zpc_c⟩,
  Or.inl ⟨146, zf_zm_82_73 env, zpc_c⟩,
  Or.inl ⟨147, zf_zm_82_74 env, zpc_c⟩,
  Or.inr (Or.inr (Or.inl ⟨zf_zm_82_75 env, zpc_c⟩)),
  Or.inl ⟨151, zf_zm_82_76 env, zpc_c⟩,
  Or.inl ⟨152, zf_zm_82_77 env, zpc_c⟩,
  Or.inl ⟨153, zf_zm_82_78 env, zpc_c⟩,
  Or.inl ⟨156, zf_zm_82_79 env, zpc_c⟩,
  Or.inl ⟨157, zf_zm_82_80 env, zpc_c⟩,
  Or.inl ⟨158, zf_zm_82_81 env, zpc_c⟩,
  Or.inr (Or.inr (Or.inl ⟨zf_zm_82_82 env, zpc_c⟩)),
  Or.inl ⟨162, zf_zm_82_83 env, zpc_c⟩,
  Or.inl ⟨165, zf_zm_82_84 env, zpc_c⟩,
  Or.inl ⟨166, zf_zm_82_85 env, zpc_c⟩,
  Or.inl ⟨167, zf_zm_82_86 env, zpc_c⟩,
  Or.inl ⟨170, zf_zm_82_87 env, zpc_c⟩,
  Or.inr (Or.inl (zf_zm_82_88 env)), trivial⟩
theorem zf_zm_83_0 (env : List (Nat × Nat)) : zI9 83 zY_83 zm_83 env (0, 0, 0, 0, 0) 1 := zi_aload_n (by decide +kernel : decode zY_83.2.1 0 = .ok (.aload_n 0, 1)) rfl
theorem zf_zm_83_1 (env : List (Nat × Nat)) : zI9 83 zY_83 zm_83 env (1, 1, 3, 3, 3) 4 := zi_getf (i := 75) (N := 22) (C := "TransportPair$Greeting") (ref := "TransportPair$Greeting") (T := zF_3) (by decide +kernel : decode zY_83.2.1 1 = .ok (.getfield 75, 3)) rfl zuw_3 (by decide) (zw_T zwd_395) rfl
theorem zf_zm_83_2 (env : List (Nat × Nat)) : zI9 83 zY_83 zm_83 env (4, 5, 4, 0, 0) 7 := zi_if_eq (off := 14) (t := 18) (by decide +kernel : decode zY_83.2.1 4 = .ok (.ifCond .eq 14, 3)) (by decide) (by decide +kernel)
theorem zf_zm_83_3 (env : List (Nat × Nat)) : zI9 83 zY_83 zm_83 env (7, 99, 0, 0, 0) 18 := zi_none
theorem zf_zm_83_4 (env : List (Nat × Nat)) : zI9 83 zY_83 zm_83 env (18, 2, 0, 0, 0) 19 := zi_iconst (by decide +kernel : decode zY_83.2.1 18 = .ok (.iconst 0, 1)) (by decide +kernel)
theorem zf_zm_83_5 (env : List (Nat × Nat)) : zR9 83 env (19, 11, 3, 0, 0) := zi_zret (by decide +kernel : decode (zYf 83).2.1 19 = .ok (.ireturn, 1)) rfl
set_option maxRecDepth 100000 in
theorem zc_zm_83 (env : List (Nat × Nat)) : zcode zX (z_QF zEX zcl zft) (z_zm zEX zX zWL zcl zft zYf) zYf zW zET zcl zft (zGv env) 83 zm_83 zm_83.1 := ⟨Or.inl ⟨1, zf_zm_83_0 env, zpc_c⟩,
  Or.inl ⟨4, zf_zm_83_1 env, zpc_c⟩,
  Or.inl ⟨7, zf_zm_83_2 env, zpc_c⟩,
  Or.inl ⟨18, zf_zm_83_3 env, zpc_c⟩,
  Or.inl ⟨19, zf_zm_83_4 env, zpc_c⟩,
  Or.inr (Or.inl (zf_zm_83_5 env)), trivial⟩
theorem zf_zm_84_0 (env : List (Nat × Nat)) : zI9 84 zY_84 zm_84 env (0, 0, 0, 0, 0) 1 := zi_aload_n (by decide +kernel : decode zY_84.2.1 0 = .ok (.aload_n 0, 1)) rfl
theorem zf_zm_84_1 (env : List (Nat × Nat)) : zI9 84 zY_84 zm_84 env (1, 60, 0, 0, 0) 4 := zi_obj (i := 1) (by decide +kernel : decode zY_84.2.1 1 = .ok (.invokespecial 1, 3)) (zw_T zwd_396) (zw_T zwd_11) (zw_T zwd_12)
theorem zf_zm_84_2 (env : List (Nat × Nat)) : zI9 84 zY_84 zm_84 env (4, 0, 0, 0, 0) 5 := zi_aload_n (by decide +kernel : decode zY_84.2.1 4 = .ok (.aload_n 0, 1)) rfl
theorem zf_zm_84_3 (env : List (Nat × Nat)) : zI9 84 zY_84 zm_84 env (5, 2, 96, 0, 0) 7 := zi_bipush (by decide +kernel : decode zY_84.2.1 5 = .ok (.bipush 96, 2)) (by decide +kernel)
theorem zf_zm_84_4 (env : List (Nat × Nat)) : zI9 84 zY_84 zm_84 env (7, 2, 0, 0, 0) 8 := zi_iconst (by decide +kernel : decode zY_84.2.1 7 = .ok (.iconst 0, 1)) (by decide +kernel)
theorem zf_zm_84_5 (env : List (Nat × Nat)) : zI9 84 zY_84 zm_84 env (8, 45, 8, 1, 0) 12 := zi_multi (i := 9) (ty := .byte) (by decide +kernel : decode zY_84.2.1 8 = .ok (.multianewarray 9 2, 4)) (zw_T zwd_397) (zw_N zwd_370) (zw_T zwd_79) rfl rfl rfl (by decide) rfl (fun _ _ h => h)
theorem zf_zm_84_6 (env : List (Nat × Nat)) : zI9 84 zY_84 zm_84 env (12, 4, 4, 0, 2) 15 := zi_putfF (i := 11) (N := 7) (C := "TransportPair$Line") (ref := "TransportPair$Line") (T := zF_4) (by decide +kernel : decode zY_84.2.1 12 = .ok (.putfield 11, 3)) rfl zuw_4 zFt_4 zFn_4 (by decide) (zw_T zwd_398) rfl rfl rfl rfl (ty := .array (.array .byte)) (by decide +kernel) (Or.inr ⟨_, rfl⟩)
theorem zf_zm_84_7 (env : List (Nat × Nat)) : zI9 84 zY_84 zm_84 env (15, 0, 0, 0, 0) 16 := zi_aload_n (by decide +kernel : decode zY_84.2.1 15 = .ok (.aload_n 0, 1)) rfl
theorem zf_zm_84_8 (env : List (Nat × Nat)) : zI9 84 zY_84 zm_84 env (16, 2, 96, 0, 0) 18 := zi_bipush (by decide +kernel : decode zY_84.2.1 16 = .ok (.bipush 96, 2)) (by decide +kernel)
theorem zf_zm_84_9 (env : List (Nat × Nat)) : zI9 84 zY_84 zm_84 env (18, 12, 0, 0, 0) 20 := zi_newI (by decide +kernel : decode zY_84.2.1 18 = .ok (.newarray .int, 2)) (zw_T zwd_16) rfl rfl (by decide) rfl
theorem zf_zm_84_10 (env : List (Nat × Nat)) : zI9 84 zY_84 zm_84 env (20, 4, 4, 1, 2) 23 := zi_putfF (i := 14) (N := 7) (C := "TransportPair$Line") (ref := "TransportPair$Line") (T := zF_4) (by decide +kernel : decode zY_84.2.1 20 = .ok (.putfield 14, 3)) rfl zuw_4 zFt_4 zFn_4 (by decide) (zw_T zwd_399) rfl rfl rfl rfl (ty := .array .int) (by decide +kernel) (Or.inr ⟨_, rfl⟩)
theorem zf_zm_84_11 (env : List (Nat × Nat)) : zI9 84 zY_84 zm_84 env (23, 0, 0, 0, 0) 24 := zi_aload_n (by decide +kernel : decode zY_84.2.1 23 = .ok (.aload_n 0, 1)) rfl
theorem zf_zm_84_12 (env : List (Nat × Nat)) : zI9 84 zY_84 zm_84 env (24, 2, 96, 0, 0) 26 := zi_bipush (by decide +kernel : decode zY_84.2.1 24 = .ok (.bipush 96, 2)) (by decide +kernel)
theorem zf_zm_84_13 (env : List (Nat × Nat)) : zI9 84 zY_84 zm_84 env (26, 12, 0, 0, 0) 28 := zi_newI (by decide +kernel : decode zY_84.2.1 26 = .ok (.newarray .int, 2)) (zw_T zwd_16) rfl rfl (by decide) rfl
theorem zf_zm_84_14 (env : List (Nat × Nat)) : zI9 84 zY_84 zm_84 env (28, 4, 4, 2, 2) 31 := zi_putfF (i := 18) (N := 7) (C := "TransportPair$Line") (ref := "TransportPair$Line") (T := zF_4) (by decide +kernel : decode zY_84.2.1 28 = .ok (.putfield 18, 3)) rfl zuw_4 zFt_4 zFn_4 (by decide) (zw_T zwd_400) rfl rfl rfl rfl (ty := .array .int) (by decide +kernel) (Or.inr ⟨_, rfl⟩)
theorem zf_zm_84_15 (env : List (Nat × Nat)) : zI9 84 zY_84 zm_84 env (31, 0, 0, 0, 0) 32 := zi_aload_n (by decide +kernel : decode zY_84.2.1 31 = .ok (.aload_n 0, 1)) rfl
theorem zf_zm_84_16 (env : List (Nat × Nat)) : zI9 84 zY_84 zm_84 env (32, 2, 96, 0, 0) 34 := zi_bipush (by decide +kernel : decode zY_84.2.1 32 = .ok (.bipush 96, 2)) (by decide +kernel)
theorem zf_zm_84_17 (env : List (Nat × Nat)) : zI9 84 zY_84 zm_84 env (34, 12, 0, 0, 0) 36 := zi_newI (by decide +kernel : decode zY_84.2.1 34 = .ok (.newarray .int, 2)) (zw_T zwd_16) rfl rfl (by decide) rfl
theorem zf_zm_84_18 (env : List (Nat × Nat)) : zI9 84 zY_84 zm_84 env (36, 4, 4, 3, 2) 39 := zi_putfF (i := 21) (N := 7) (C := "TransportPair$Line") (ref := "TransportPair$Line") (T := zF_4) (by decide +kernel : decode zY_84.2.1 36 = .ok (.putfield 21, 3)) rfl zuw_4 zFt_4 zFn_4 (by decide) (zw_T zwd_401) rfl rfl rfl rfl (ty := .array .int) (by decide +kernel) (Or.inr ⟨_, rfl⟩)
theorem zf_zm_84_19 (env : List (Nat × Nat)) : zI9 84 zY_84 zm_84 env (39, 2, 0, 0, 0) 40 := zi_iconst (by decide +kernel : decode zY_84.2.1 39 = .ok (.iconst 0, 1)) (by decide +kernel)
theorem zf_zm_84_20 (env : List (Nat × Nat)) : zI9 84 zY_84 zm_84 env (40, 10, 1, 0, 0) 41 := zi_istore_n (by decide +kernel : decode zY_84.2.1 40 = .ok (.istore_n 1, 1)) rfl (by decide)
theorem zf_zm_84_21 (env : List (Nat × Nat)) : zI9 84 zY_84 zm_84 env (41, 63, 1, 0, 0) 42 := zi_iload_n (by decide +kernel : decode zY_84.2.1 41 = .ok (.iload_n 1, 1)) rfl
theorem zf_zm_84_22 (env : List (Nat × Nat)) : zI9 84 zY_84 zm_84 env (42, 2, 96, 0, 0) 44 := zi_bipush (by decide +kernel : decode zY_84.2.1 42 = .ok (.bipush 96, 2)) (by decide +kernel)
theorem zf_zm_84_23 (env : List (Nat × Nat)) : zI9 84 zY_84 zm_84 env (44, 28, 31, 0, 0) 47 := zi_icmp_ge (off := 16) (t := 60) (by decide +kernel : decode zY_84.2.1 44 = .ok (.if_icmp .ge 16, 3)) (by decide) (by decide +kernel)
theorem zf_zm_84_24 (env : List (Nat × Nat)) : zI9 84 zY_84 zm_84 env (47, 0, 0, 0, 0) 48 := zi_aload_n (by decide +kernel : decode zY_84.2.1 47 = .ok (.aload_n 0, 1)) rfl
theorem zf_zm_84_25 (env : List (Nat × Nat)) : zI9 84 zY_84 zm_84 env (48, 1, 4, 3, 2) 51 := zi_getf (i := 21) (N := 7) (C := "TransportPair$Line") (ref := "TransportPair$Line") (T := zF_4) (by decide +kernel : decode zY_84.2.1 48 = .ok (.getfield 21, 3)) rfl zuw_4 (by decide) (zw_T zwd_401) rfl
theorem zf_zm_84_26 (env : List (Nat × Nat)) : zI9 84 zY_84 zm_84 env (51, 63, 1, 0, 0) 52 := zi_iload_n (by decide +kernel : decode zY_84.2.1 51 = .ok (.iload_n 1, 1)) rfl
theorem zf_zm_84_27 (env : List (Nat × Nat)) : zI9 84 zY_84 zm_84 env (52, 63, 1, 0, 0) 53 := zi_iload_n (by decide +kernel : decode zY_84.2.1 52 = .ok (.iload_n 1, 1)) rfl
theorem zf_zm_84_28 (env : List (Nat × Nat)) : zI9 84 zY_84 zm_84 env (53, 32, 0, 0, 0) 54 := zi_iast (by decide +kernel : decode zY_84.2.1 53 = .ok (.iastore, 1))
theorem zf_zm_84_29 (env : List (Nat × Nat)) : zI9 84 zY_84 zm_84 env (54, 35, 1, 1, 0) 57 := zi_iinc (by decide +kernel : decode zY_84.2.1 54 = .ok (.iinc 1 1, 3)) (by decide +kernel) (by decide)
theorem zf_zm_84_30 (env : List (Nat × Nat)) : zI9 84 zY_84 zm_84 env (57, 7, 21, 0, 0) 60 := zi_goto (off := (-16)) (t := 41) (by decide +kernel : decode zY_84.2.1 57 = .ok (.goto (-16), 3)) (by decide) (by decide +kernel)
theorem zf_zm_84_31 (env : List (Nat × Nat)) : zR9 84 env (60, 21, 0, 0, 0) := zi_vret (by decide +kernel : decode (zYf 84).2.1 60 = .ok (.return_, 1)) rfl
set_option maxRecDepth 100000 in
theorem zc_zm_84 (env : List (Nat × Nat)) : zcode zX (z_QF zEX zcl zft) (z_zm zEX zX zWL zcl zft zYf) zYf zW zET zcl zft (zGv env) 84 zm_84 zm_84.1 := ⟨Or.inl ⟨1, zf_zm_84_0 env, zpc_c⟩,
  Or.inl ⟨4, zf_zm_84_1 env, zpc_c⟩,
  Or.inl ⟨5, zf_zm_84_2 env, zpc_c⟩,
  Or.inl ⟨7, zf_zm_84_3 env, zpc_c⟩,
  Or.inl ⟨8, zf_zm_84_4 env, zpc_c⟩,
  Or.inl ⟨12, zf_zm_84_5 env, zpc_c⟩,
  Or.inl ⟨15, zf_zm_84_6 env, zpc_c⟩,
  Or.inl ⟨16, zf_zm_84_7 env, zpc_c⟩,
  Or.inl ⟨18, zf_zm_84_8 env, zpc_c⟩,
  Or.inl ⟨20, zf_zm_84_9 env, zpc_c⟩,
  Or.inl ⟨23, zf_zm_84_10 env, zpc_c⟩,
  Or.inl ⟨24, zf_zm_84_11 env, zpc_c⟩,
  Or.inl ⟨26, zf_zm_84_12 env, zpc_c⟩,
  Or.inl ⟨28, zf_zm_84_13 env, zpc_c⟩,
  Or.inl ⟨31, zf_zm_84_14 env, zpc_c⟩,
  Or.inl ⟨32, zf_zm_84_15 env, zpc_c⟩,
  Or.inl ⟨34, zf_zm_84_16 env, zpc_c⟩,
  Or.inl ⟨36, zf_zm_84_17 env, zpc_c⟩,
  Or.inl ⟨39, zf_zm_84_18 env, zpc_c⟩,
  Or.inl ⟨40, zf_zm_84_19 env, zpc_c⟩,
  Or.inl ⟨41, zf_zm_84_20 env, zpc_c⟩,
  Or.inl ⟨42, zf_zm_84_21 env, zpc_c⟩,
  Or.inl ⟨44, zf_zm_84_22 env, zpc_c⟩,
  Or.inl ⟨47, zf_zm_84_23 env, zpc_c⟩,
  Or.inl ⟨48, zf_zm_84_24 env, zpc_c⟩,
  Or.inl ⟨51, zf_zm_84_25 env, zpc_c⟩,
  Or.inl ⟨52, zf_zm_84_26 env, zpc_c⟩,
  Or.inl ⟨53, zf_zm_84_27 env, zpc_c⟩,
  Or.inl ⟨54, zf_zm_84_28 env, zpc_c⟩,
  Or.inl ⟨57, zf_zm_84_29 env, zpc_c⟩,
  Or.inl ⟨60, zf_zm_84_30 env, zpc_c⟩,
  Or.inr (Or.inl (zf_zm_84_31 env)), trivial⟩
theorem zf_zm_85_0 (env : List (Nat × Nat)) : zI9 85 zY_85 zm_85 env (0, 0, 0, 0, 0) 1 := zi_aload_n (by decide +kernel : decode zY_85.2.1 0 = .ok (.aload_n 0, 1)) rfl
theorem zf_zm_85_1 (env : List (Nat × Nat)) : zI9 85 zY_85 zm_85 env (1, 60, 0, 0, 0) 4 := zi_obj (i := 3) (by decide +kernel : decode zY_85.2.1 1 = .ok (.invokespecial 3, 3)) (zw_T zwd_402) (zw_T zwd_11) (zw_T zwd_12)
theorem zf_zm_85_2 (env : List (Nat × Nat)) : zI9 85 zY_85 zm_85 env (4, 0, 0, 0, 0) 5 := zi_aload_n (by decide +kernel : decode zY_85.2.1 4 = .ok (.aload_n 0, 1)) rfl
theorem zf_zm_85_3 (env : List (Nat × Nat)) : zI9 85 zY_85 zm_85 env (5, 2, 8, 0, 0) 7 := zi_bipush (by decide +kernel : decode zY_85.2.1 5 = .ok (.bipush 8, 2)) (by decide +kernel)
theorem zf_zm_85_4 (env : List (Nat × Nat)) : zI9 85 zY_85 zm_85 env (7, 12, 0, 1, 0) 9 := zi_newI (by decide +kernel : decode zY_85.2.1 7 = .ok (.newarray .byte, 2)) (zw_T zwd_79) rfl rfl (by decide) rfl
theorem zf_zm_85_5 (env : List (Nat × Nat)) : zI9 85 zY_85 zm_85 env (9, 4, 5, 4, 2) 12 := zi_putfF (i := 11) (N := 22) (C := "TransportPair$Outbox") (ref := "TransportPair$Outbox") (T := zF_5) (by decide +kernel : decode zY_85.2.1 9 = .ok (.putfield 11, 3)) rfl zuw_5 zFt_5 zFn_5 (by decide) (zw_T zwd_403) rfl rfl rfl rfl (ty := .array .byte) (by decide +kernel) (Or.inr ⟨_, rfl⟩)
theorem zf_zm_85_6 (env : List (Nat × Nat)) : zI9 85 zY_85 zm_85 env (12, 0, 0, 0, 0) 13 := zi_aload_n (by decide +kernel : decode zY_85.2.1 12 = .ok (.aload_n 0, 1)) rfl
theorem zf_zm_85_7 (env : List (Nat × Nat)) : zI9 85 zY_85 zm_85 env (13, 2, 1000, 0, 0) 16 := zi_sipush (by decide +kernel : decode zY_85.2.1 13 = .ok (.sipush 1000, 3)) (by decide +kernel)
theorem zf_zm_85_8 (env : List (Nat × Nat)) : zI9 85 zY_85 zm_85 env (16, 12, 0, 1, 0) 18 := zi_newI (by decide +kernel : decode zY_85.2.1 16 = .ok (.newarray .byte, 2)) (zw_T zwd_79) rfl rfl (by decide) rfl
theorem zf_zm_85_9 (env : List (Nat × Nat)) : zI9 85 zY_85 zm_85 env (18, 4, 5, 5, 2) 21 := zi_putfF (i := 17) (N := 22) (C := "TransportPair$Outbox") (ref := "TransportPair$Outbox") (T := zF_5) (by decide +kernel : decode zY_85.2.1 18 = .ok (.putfield 17, 3)) rfl zuw_5 zFt_5 zFn_5 (by decide) (zw_T zwd_404) rfl rfl rfl rfl (ty := .array .byte) (by decide +kernel) (Or.inr ⟨_, rfl⟩)
theorem zf_zm_85_10 (env : List (Nat × Nat)) : zI9 85 zY_85 zm_85 env (21, 0, 0, 0, 0) 22 := zi_aload_n (by decide +kernel : decode zY_85.2.1 21 = .ok (.aload_n 0, 1)) rfl
theorem zf_zm_85_11 (env : List (Nat × Nat)) : zI9 85 zY_85 zm_85 env (22, 2, 5, 0, 0) 23 := zi_iconst (by decide +kernel : decode zY_85.2.1 22 = .ok (.iconst 5, 1)) (by decide +kernel)
theorem zf_zm_85_12 (env : List (Nat × Nat)) : zI9 85 zY_85 zm_85 env (23, 12, 0, 0, 0) 25 := zi_newI (by decide +kernel : decode zY_85.2.1 23 = .ok (.newarray .int, 2)) (zw_T zwd_16) rfl rfl (by decide) rfl
theorem zf_zm_85_13 (env : List (Nat × Nat)) : zI9 85 zY_85 zm_85 env (25, 4, 5, 14, 2) 28 := zi_putfF (i := 22) (N := 22) (C := "TransportPair$Outbox") (ref := "TransportPair$Outbox") (T := zF_5) (by decide +kernel : decode zY_85.2.1 25 = .ok (.putfield 22, 3)) rfl zuw_5 zFt_5 zFn_5 (by decide) (zw_T zwd_405) rfl rfl rfl rfl (ty := .array .int) (by decide +kernel) (Or.inr ⟨_, rfl⟩)
theorem zf_zm_85_14 (env : List (Nat × Nat)) : zI9 85 zY_85 zm_85 env (28, 0, 0, 0, 0) 29 := zi_aload_n (by decide +kernel : decode zY_85.2.1 28 = .ok (.aload_n 0, 1)) rfl
theorem zf_zm_85_15 (env : List (Nat × Nat)) : zI9 85 zY_85 zm_85 env (29, 2, 80, 0, 0) 31 := zi_bipush (by decide +kernel : decode zY_85.2.1 29 = .ok (.bipush 80, 2)) (by decide +kernel)
theorem zf_zm_85_16 (env : List (Nat × Nat)) : zI9 85 zY_85 zm_85 env (31, 12, 0, 0, 0) 33 := zi_newI (by decide +kernel : decode zY_85.2.1 31 = .ok (.newarray .int, 2)) (zw_T zwd_16) rfl rfl (by decide) rfl
theorem zf_zm_85_17 (env : List (Nat × Nat)) : zI9 85 zY_85 zm_85 env (33, 4, 5, 15, 2) 36 := zi_putf (i := 26) (N := 22) (C := "TransportPair$Outbox") (ref := "TransportPair$Outbox") (T := zF_5) (by decide +kernel : decode zY_85.2.1 33 = .ok (.putfield 26, 3)) rfl zuw_5 zFt_5 zFn_5 (by decide) (zw_T zwd_406) rfl rfl (ty := .array .int) (by decide +kernel) (Or.inr ⟨_, rfl⟩)
theorem zf_zm_85_18 (env : List (Nat × Nat)) : zI9 85 zY_85 zm_85 env (36, 0, 0, 0, 0) 37 := zi_aload_n (by decide +kernel : decode zY_85.2.1 36 = .ok (.aload_n 0, 1)) rfl
theorem zf_zm_85_19 (env : List (Nat × Nat)) : zI9 85 zY_85 zm_85 env (37, 2, 1200, 0, 0) 40 := zi_sipush (by decide +kernel : decode zY_85.2.1 37 = .ok (.sipush 1200, 3)) (by decide +kernel)
theorem zf_zm_85_20 (env : List (Nat × Nat)) : zI9 85 zY_85 zm_85 env (40, 12, 0, 1, 0) 42 := zi_newI (by decide +kernel : decode zY_85.2.1 40 = .ok (.newarray .byte, 2)) (zw_T zwd_79) rfl rfl (by decide) rfl
theorem zf_zm_85_21 (env : List (Nat × Nat)) : zI9 85 zY_85 zm_85 env (42, 4, 5, 17, 2) 45 := zi_putfF (i := 29) (N := 22) (C := "TransportPair$Outbox") (ref := "TransportPair$Outbox") (T := zF_5) (by decide +kernel : decode zY_85.2.1 42 = .ok (.putfield 29, 3)) rfl zuw_5 zFt_5 zFn_5 (by decide) (zw_T zwd_407) rfl rfl rfl rfl (ty := .array .byte) (by decide +kernel) (Or.inr ⟨_, rfl⟩)
theorem zf_zm_85_22 (env : List (Nat × Nat)) : zI9 85 zY_85 zm_85 env (45, 0, 0, 0, 0) 46 := zi_aload_n (by decide +kernel : decode zY_85.2.1 45 = .ok (.aload_n 0, 1)) rfl
theorem zf_zm_85_23 (env : List (Nat × Nat)) : zI9 85 zY_85 zm_85 env (46, 2, 3, 0, 0) 47 := zi_iconst (by decide +kernel : decode zY_85.2.1 46 = .ok (.iconst 3, 1)) (by decide +kernel)
theorem zf_zm_85_24 (env : List (Nat × Nat)) : zI9 85 zY_85 zm_85 env (47, 2, 5, 0, 0) 48 := zi_iconst (by decide +kernel : decode zY_85.2.1 47 = .ok (.iconst 5, 1)) (by decide +kernel)
theorem zf_zm_85_25 (env : List (Nat × Nat)) : zI9 85 zY_85 zm_85 env (48, 45, 11, 0, 0) 52 := zi_multi (i := 32) (ty := .int) (by decide +kernel : decode zY_85.2.1 48 = .ok (.multianewarray 32 2, 4)) (zw_T zwd_408) (zw_N zwd_409) (zw_T zwd_16) rfl rfl rfl (by decide) rfl (fun _ _ h => h)
theorem zf_zm_85_26 (env : List (Nat × Nat)) : zI9 85 zY_85 zm_85 env (52, 4, 5, 20, 2) 55 := zi_putfF (i := 34) (N := 22) (C := "TransportPair$Outbox") (ref := "TransportPair$Outbox") (T := zF_5) (by decide +kernel : decode zY_85.2.1 52 = .ok (.putfield 34, 3)) rfl zuw_5 zFt_5 zFn_5 (by decide) (zw_T zwd_410) rfl rfl rfl rfl (ty := .array (.array .int)) (by decide +kernel) (Or.inr ⟨_, rfl⟩)
theorem zf_zm_85_27 (env : List (Nat × Nat)) : zI9 85 zY_85 zm_85 env (55, 0, 0, 0, 0) 56 := zi_aload_n (by decide +kernel : decode zY_85.2.1 55 = .ok (.aload_n 0, 1)) rfl
theorem zf_zm_85_28 (env : List (Nat × Nat)) : zI9 85 zY_85 zm_85 env (56, 0, 1, 0, 0) 57 := zi_aload_n (by decide +kernel : decode zY_85.2.1 56 = .ok (.aload_n 1, 1)) rfl
theorem zf_zm_85_29 (env : List (Nat × Nat)) : zI9 85 zY_85 zm_85 env (57, 4, 5, 0, 2) 60 := zi_putfF (i := 37) (N := 22) (C := "TransportPair$Outbox") (ref := "TransportPair$Outbox") (T := zF_5) (by decide +kernel : decode zY_85.2.1 57 = .ok (.putfield 37, 3)) rfl zuw_5 zFt_5 zFn_5 (by decide) (zw_T zwd_411) rfl rfl rfl rfl (ty := .object "TransportPair$Seals") (by decide +kernel) (Or.inl ⟨_, rfl⟩)
theorem zf_zm_85_30 (env : List (Nat × Nat)) : zI9 85 zY_85 zm_85 env (60, 0, 0, 0, 0) 61 := zi_aload_n (by decide +kernel : decode zY_85.2.1 60 = .ok (.aload_n 0, 1)) rfl
theorem zf_zm_85_31 (env : List (Nat × Nat)) : zI9 85 zY_85 zm_85 env (61, 0, 2, 0, 0) 62 := zi_aload_n (by decide +kernel : decode zY_85.2.1 61 = .ok (.aload_n 2, 1)) rfl
theorem zf_zm_85_32 (env : List (Nat × Nat)) : zI9 85 zY_85 zm_85 env (62, 4, 5, 1, 2) 65 := zi_putfF (i := 41) (N := 22) (C := "TransportPair$Outbox") (ref := "TransportPair$Outbox") (T := zF_5) (by decide +kernel : decode zY_85.2.1 62 = .ok (.putfield 41, 3)) rfl zuw_5 zFt_5 zFn_5 (by decide) (zw_T zwd_412) rfl rfl rfl rfl (ty := .object "TransportPair$Book") (by decide +kernel) (Or.inl ⟨_, rfl⟩)
theorem zf_zm_85_33 (env : List (Nat × Nat)) : zI9 85 zY_85 zm_85 env (65, 0, 0, 0, 0) 66 := zi_aload_n (by decide +kernel : decode zY_85.2.1 65 = .ok (.aload_n 0, 1)) rfl
theorem zf_zm_85_34 (env : List (Nat × Nat)) : zI9 85 zY_85 zm_85 env (66, 0, 3, 0, 0) 67 := zi_aload_n (by decide +kernel : decode zY_85.2.1 66 = .ok (.aload_n 3, 1)) rfl
theorem zf_zm_85_35 (env : List (Nat × Nat)) : zI9 85 zY_85 zm_85 env (67, 4, 5, 2, 2) 70 := zi_putfF (i := 45) (N := 22) (C := "TransportPair$Outbox") (ref := "TransportPair$Outbox") (T := zF_5) (by decide +kernel : decode zY_85.2.1 67 = .ok (.putfield 45, 3)) rfl zuw_5 zFt_5 zFn_5 (by decide) (zw_T zwd_413) rfl rfl rfl rfl (ty := .object "TransportPair$Streams") (by decide +kernel) (Or.inl ⟨_, rfl⟩)
theorem zf_zm_85_36 (env : List (Nat × Nat)) : zI9 85 zY_85 zm_85 env (70, 0, 0, 0, 0) 71 := zi_aload_n (by decide +kernel : decode zY_85.2.1 70 = .ok (.aload_n 0, 1)) rfl
theorem zf_zm_85_37 (env : List (Nat × Nat)) : zI9 85 zY_85 zm_85 env (71, 0, 4, 0, 0) 73 := zi_aload (by decide +kernel : decode zY_85.2.1 71 = .ok (.aload 4, 2))
theorem zf_zm_85_38 (env : List (Nat × Nat)) : zI9 85 zY_85 zm_85 env (73, 4, 5, 3, 2) 76 := zi_putfF (i := 49) (N := 22) (C := "TransportPair$Outbox") (ref := "TransportPair$Outbox") (T := zF_5) (by decide +kernel : decode zY_85.2.1 73 = .ok (.putfield 49, 3)) rfl zuw_5 zFt_5 zFn_5 (by decide) (zw_T zwd_414) rfl rfl rfl rfl (ty := .object "TransportPair$Greeting") (by decide +kernel) (Or.inl ⟨_, rfl⟩)
theorem zf_zm_85_39 (env : List (Nat × Nat)) : zR9 85 env (76, 21, 0, 0, 0) := zi_vret (by decide +kernel : decode (zYf 85).2.1 76 = .ok (.return_, 1)) rfl
set_option maxRecDepth 100000 in
theorem zc_zm_85 (env : List (Nat × Nat)) : zcode zX (z_QF zEX zcl zft) (z_zm zEX zX zWL zcl zft zYf) zYf zW zET zcl zft (zGv env) 85 zm_85 zm_85.1 := ⟨Or.inl ⟨1, zf_zm_85_0 env, zpc_c⟩,
  Or.inl ⟨4, zf_zm_85_1 env, zpc_c⟩,
  Or.inl ⟨5, zf_zm_85_2 env, zpc_c⟩,
  Or.inl ⟨7, zf_zm_85_3 env, zpc_c⟩,
  Or.inl ⟨9, zf_zm_85_4 env, zpc_c⟩,
  Or.inl ⟨12, zf_zm_85_5 env, zpc_c⟩,
  Or.inl ⟨13, zf_zm_85_6 env, zpc_c⟩,
  Or.inl ⟨16, zf_zm_85_7 env, zpc_c⟩,
  Or.inl ⟨18, zf_zm_85_8 env, zpc_c⟩,
  Or.inl ⟨21, zf_zm_85_9 env, zpc_c⟩,
  Or.inl ⟨22, zf_zm_85_10 env, zpc_c⟩,
  Or.inl ⟨23, zf_zm_85_11 env, zpc_c⟩,
  Or.inl ⟨25, zf_zm_85_12 env, zpc_c⟩,
  Or.inl ⟨28, zf_zm_85_13 env, zpc_c⟩,
  Or.inl ⟨29, zf_zm_85_14 env, zpc_c⟩,
  Or.inl ⟨31, zf_zm_85_15 env, zpc_c⟩,
  Or.inl ⟨33, zf_zm_85_16 env, zpc_c⟩,
  Or.inl ⟨36, zf_zm_85_17 env, zpc_c⟩,
  Or.inl ⟨37, zf_zm_85_18 env, zpc_c⟩,
  Or.inl ⟨40, zf_zm_85_19 env, zpc_c⟩,
  Or.inl ⟨42, zf_zm_85_20 env, zpc_c⟩,
  Or.inl ⟨45, zf_zm_85_21 env, zpc_c⟩,
  Or.inl ⟨46, zf_zm_85_22 env, zpc_c⟩,
  Or.inl ⟨47, zf_zm_85_23 env, zpc_c⟩,
  Or.inl ⟨48, zf_zm_85_24 env, zpc_c⟩,
  Or.inl ⟨52, zf_zm_85_25 env, zpc_c⟩,
  Or.inl ⟨55, zf_zm_85_26 env, zpc_c⟩,
  Or.inl ⟨56, zf_zm_85_27 env, zpc_c⟩,
  Or.inl ⟨57, zf_zm_85_28 env, zpc_c⟩,
  Or.inl ⟨60, zf_zm_85_29 env, zpc_c⟩,
  Or.inl ⟨61, zf_zm_85_30 env, zpc_c⟩,
  Or.inl ⟨62, zf_zm_85_31 env, zpc_c⟩,
  Or.inl ⟨65, zf_zm_85_32 env, zpc_c⟩,
  Or.inl ⟨66, zf_zm_85_33 env, zpc_c⟩,
  Or.inl ⟨67, zf_zm_85_34 env, zpc_c⟩,
  Or.inl ⟨70, zf_zm_85_35 env, zpc_c⟩,
  Or.inl ⟨71, zf_zm_85_36 env, zpc_c⟩,
  Or.inl ⟨73, zf_zm_85_37 env, zpc_c⟩,
  Or.inl ⟨76, zf_zm_85_38 env, zpc_c⟩,
  Or.inr (Or.inl (zf_zm_85_39 env)), trivial⟩
theorem zf_zm_86_0 (env : List (Nat × Nat)) : zI9 86 zY_86 zm_86 env (0, 0, 0, 0, 0) 1 := zi_aload_n (by decide +kernel : decode zY_86.2.1 0 = .ok (.aload_n 0, 1)) rfl
theorem zf_zm_86_1 (env : List (Nat × Nat)) : zI9 86 zY_86 zm_86 env (1, 60, 0, 0, 0) 4 := zi_obj (i := 1) (by decide +kernel : decode zY_86.2.1 1 = .ok (.invokespecial 1, 3)) (zw_T zwd_415) (zw_T zwd_11) (zw_T zwd_12)
theorem zf_zm_86_2 (env : List (Nat × Nat)) : zI9 86 zY_86 zm_86 env (4, 0, 0, 0, 0) 5 := zi_aload_n (by decide +kernel : decode zY_86.2.1 4 = .ok (.aload_n 0, 1)) rfl
theorem zf_zm_86_3 (env : List (Nat × Nat)) : zI9 86 zY_86 zm_86 env (5, 2, 0, 0, 0) 6 := zi_iconst (by decide +kernel : decode zY_86.2.1 5 = .ok (.iconst 0, 1)) (by decide +kernel)
theorem zf_zm_86_4 (env : List (Nat × Nat)) : zI9 86 zY_86 zm_86 env (6, 12, 0, 1, 0) 8 := zi_newI (by decide +kernel : decode zY_86.2.1 6 = .ok (.newarray .byte, 2)) (zw_T zwd_79) rfl rfl (by decide) rfl
theorem zf_zm_86_5 (env : List (Nat × Nat)) : zI9 86 zY_86 zm_86 env (8, 4, 6, 0, 2) 11 := zi_putf (i := 7) (N := 21) (C := "TransportPair$Reader") (ref := "TransportPair$Reader") (T := zF_6) (by decide +kernel : decode zY_86.2.1 8 = .ok (.putfield 7, 3)) rfl zuw_6 zFt_6 zFn_6 (by decide) (zw_T zwd_416) rfl rfl (ty := .array .byte) (by decide +kernel) (Or.inr ⟨_, rfl⟩)
theorem zf_zm_86_6 (env : List (Nat × Nat)) : zI9 86 zY_86 zm_86 env (11, 0, 0, 0, 0) 12 := zi_aload_n (by decide +kernel : decode zY_86.2.1 11 = .ok (.aload_n 0, 1)) rfl
theorem zf_zm_86_7 (env : List (Nat × Nat)) : zI9 86 zY_86 zm_86 env (12, 2, 64, 0, 0) 14 := zi_bipush (by decide +kernel : decode zY_86.2.1 12 = .ok (.bipush 64, 2)) (by decide +kernel)
theorem zf_zm_86_8 (env : List (Nat × Nat)) : zI9 86 zY_86 zm_86 env (14, 12, 1, 3, 0) 16 := zi_newL (by decide +kernel : decode zY_86.2.1 14 = .ok (.newarray .long, 2)) (zw_T zwd_13) rfl rfl
theorem zf_zm_86_9 (env : List (Nat × Nat)) : zI9 86 zY_86 zm_86 env (16, 4, 6, 11, 2) 19 := zi_putfF (i := 13) (N := 21) (C := "TransportPair$Reader") (ref := "TransportPair$Reader") (T := zF_6) (by decide +kernel : decode zY_86.2.1 16 = .ok (.putfield 13, 3)) rfl zuw_6 zFt_6 zFn_6 (by decide) (zw_T zwd_417) rfl rfl rfl rfl (ty := .array .long) (by decide +kernel) (Or.inr ⟨_, rfl⟩)
theorem zf_zm_86_10 (env : List (Nat × Nat)) : zI9 86 zY_86 zm_86 env (19, 0, 0, 0, 0) 20 := zi_aload_n (by decide +kernel : decode zY_86.2.1 19 = .ok (.aload_n 0, 1)) rfl
theorem zf_zm_86_11 (env : List (Nat × Nat)) : zI9 86 zY_86 zm_86 env (20, 2, 64, 0, 0) 22 := zi_bipush (by decide +kernel : decode zY_86.2.1 20 = .ok (.bipush 64, 2)) (by decide +kernel)
theorem zf_zm_86_12 (env : List (Nat × Nat)) : zI9 86 zY_86 zm_86 env (22, 12, 1, 3, 0) 24 := zi_newL (by decide +kernel : decode zY_86.2.1 22 = .ok (.newarray .long, 2)) (zw_T zwd_13) rfl rfl
theorem zf_zm_86_13 (env : List (Nat × Nat)) : zI9 86 zY_86 zm_86 env (24, 4, 6, 12, 2) 27 := zi_putfF (i := 17) (N := 21) (C := "TransportPair$Reader") (ref := "TransportPair$Reader") (T := zF_6) (by decide +kernel : decode zY_86.2.1 24 = .ok (.putfield 17, 3)) rfl zuw_6 zFt_6 zFn_6 (by decide) (zw_T zwd_418) rfl rfl rfl rfl (ty := .array .long) (by decide +kernel) (Or.inr ⟨_, rfl⟩)
theorem zf_zm_86_14 (env : List (Nat × Nat)) : zR9 86 env (27, 21, 0, 0, 0) := zi_vret (by decide +kernel : decode (zYf 86).2.1 27 = .ok (.return_, 1)) rfl
set_option maxRecDepth 100000 in
theorem zc_zm_86 (env : List (Nat × Nat)) : zcode zX (z_QF zEX zcl zft) (z_zm zEX zX zWL zcl zft zYf) zYf zW zET zcl zft (zGv env) 86 zm_86 zm_86.1 := ⟨Or.inl ⟨1, zf_zm_86_0 env, zpc_c⟩,
  Or.inl ⟨4, zf_zm_86_1 env, zpc_c⟩,
  Or.inl ⟨5, zf_zm_86_2 env, zpc_c⟩,
  Or.inl ⟨6, zf_zm_86_3 env, zpc_c⟩,
  Or.inl ⟨8, zf_zm_86_4 env, zpc_c⟩,
  Or.inl ⟨11, zf_zm_86_5 env, zpc_c⟩,
  Or.inl ⟨12, zf_zm_86_6 env, zpc_c⟩,
  Or.inl ⟨14, zf_zm_86_7 env, zpc_c⟩,
  Or.inl ⟨16, zf_zm_86_8 env, zpc_c⟩,
  Or.inl ⟨19, zf_zm_86_9 env, zpc_c⟩,
  Or.inl ⟨20, zf_zm_86_10 env, zpc_c⟩,
  Or.inl ⟨22, zf_zm_86_11 env, zpc_c⟩,
  Or.inl ⟨24, zf_zm_86_12 env, zpc_c⟩,
  Or.inl ⟨27, zf_zm_86_13 env, zpc_c⟩,
  Or.inr (Or.inl (zf_zm_86_14 env)), trivial⟩
theorem zf_zm_87_0 (env : List (Nat × Nat)) : zI9 87 zY_87 zm_87 env (0, 0, 0, 0, 0) 1 := zi_aload_n (by decide +kernel : decode zY_87.2.1 0 = .ok (.aload_n 0, 1)) rfl
theorem zf_zm_87_1 (env : List (Nat × Nat)) : zI9 87 zY_87 zm_87 env (1, 60, 0, 0, 0) 4 := zi_obj (i := 1) (by decide +kernel : decode zY_87.2.1 1 = .ok (.invokespecial 1, 3)) (zw_T zwd_419) (zw_T zwd_11) (zw_T zwd_12)
theorem zf_zm_87_2 (env : List (Nat × Nat)) : zI9 87 zY_87 zm_87 env (4, 0, 0, 0, 0) 5 := zi_aload_n (by decide +kernel : decode zY_87.2.1 4 = .ok (.aload_n 0, 1)) rfl
theorem zf_zm_87_3 (env : List (Nat × Nat)) : zI9 87 zY_87 zm_87 env (5, 2, 0, 0, 0) 6 := zi_iconst (by decide +kernel : decode zY_87.2.1 5 = .ok (.iconst 0, 1)) (by decide +kernel)
theorem zf_zm_87_4 (env : List (Nat × Nat)) : zI9 87 zY_87 zm_87 env (6, 12, 0, 1, 0) 8 := zi_newI (by decide +kernel : decode zY_87.2.1 6 = .ok (.newarray .byte, 2)) (zw_T zwd_79) rfl rfl (by decide) rfl
theorem zf_zm_87_5 (env : List (Nat × Nat)) : zI9 87 zY_87 zm_87 env (8, 4, 7, 1, 2) 11 := zi_putf (i := 7) (N := 13) (C := "TransportPair$Receiving") (ref := "TransportPair$Receiving") (T := zF_7) (by decide +kernel : decode zY_87.2.1 8 = .ok (.putfield 7, 3)) rfl zuw_7 zFt_7 zFn_7 (by decide) (zw_T zwd_420) rfl rfl (ty := .array .byte) (by decide +kernel) (Or.inr ⟨_, rfl⟩)
theorem zf_zm_87_6 (env : List (Nat × Nat)) : zI9 87 zY_87 zm_87 env (11, 0, 0, 0, 0) 12 := zi_aload_n (by decide +kernel : decode zY_87.2.1 11 = .ok (.aload_n 0, 1)) rfl
theorem zf_zm_87_7 (env : List (Nat × Nat)) : zI9 87 zY_87 zm_87 env (12, 2, 0, 0, 0) 13 := zi_iconst (by decide +kernel : decode zY_87.2.1 12 = .ok (.iconst 0, 1)) (by decide +kernel)
theorem zf_zm_87_8 (env : List (Nat × Nat)) : zI9 87 zY_87 zm_87 env (13, 12, 0, 1, 0) 15 := zi_newI (by decide +kernel : decode zY_87.2.1 13 = .ok (.newarray .byte, 2)) (zw_T zwd_79) rfl rfl (by decide) rfl
theorem zf_zm_87_9 (env : List (Nat × Nat)) : zI9 87 zY_87 zm_87 env (15, 4, 7, 2, 2) 18 := zi_putf (i := 13) (N := 13) (C := "TransportPair$Receiving") (ref := "TransportPair$Receiving") (T := zF_7) (by decide +kernel : decode zY_87.2.1 15 = .ok (.putfield 13, 3)) rfl zuw_7 zFt_7 zFn_7 (by decide) (zw_T zwd_421) rfl rfl (ty := .array .byte) (by decide +kernel) (Or.inr ⟨_, rfl⟩)
theorem zf_zm_87_10 (env : List (Nat × Nat)) : zI9 87 zY_87 zm_87 env (18, 0, 0, 0, 0) 19 := zi_aload_n (by decide +kernel : decode zY_87.2.1 18 = .ok (.aload_n 0, 1)) rfl
theorem zf_zm_87_11 (env : List (Nat × Nat)) : zI9 87 zY_87 zm_87 env (19, 2, 4294967295, 0, 0) 20 := zi_iconst (by decide +kernel : decode zY_87.2.1 19 = .ok (.iconst (-1), 1)) (by decide +kernel)
theorem zf_zm_87_12 (env : List (Nat × Nat)) : zI9 87 zY_87 zm_87 env (20, 4, 7, 6, 0) 23 := zi_putf (i := 16) (N := 13) (C := "TransportPair$Receiving") (ref := "TransportPair$Receiving") (T := zF_7) (by decide +kernel : decode zY_87.2.1 20 = .ok (.putfield 16, 3)) rfl zuw_7 zFt_7 zFn_7 (by decide) (zw_T zwd_422) rfl rfl (ty := .int) (by decide +kernel) (rfl)
theorem zf_zm_87_13 (env : List (Nat × Nat)) : zI9 87 zY_87 zm_87 env (23, 0, 0, 0, 0) 24 := zi_aload_n (by decide +kernel : decode zY_87.2.1 23 = .ok (.aload_n 0, 1)) rfl
theorem zf_zm_87_14 (env : List (Nat × Nat)) : zI9 87 zY_87 zm_87 env (24, 63, 1, 0, 0) 25 := zi_iload_n (by decide +kernel : decode zY_87.2.1 24 = .ok (.iload_n 1, 1)) rfl
theorem zf_zm_87_15 (env : List (Nat × Nat)) : zI9 87 zY_87 zm_87 env (25, 4, 7, 7, 0) 28 := zi_putf (i := 20) (N := 13) (C := "TransportPair$Receiving") (ref := "TransportPair$Receiving") (T := zF_7) (by decide +kernel : decode zY_87.2.1 25 = .ok (.putfield 20, 3)) rfl zuw_7 zFt_7 zFn_7 (by decide) (zw_T zwd_423) rfl rfl (ty := .int) (by decide +kernel) (rfl)
theorem zf_zm_87_16 (env : List (Nat × Nat)) : zR9 87 env (28, 21, 0, 0, 0) := zi_vret (by decide +kernel : decode (zYf 87).2.1 28 = .ok (.return_, 1)) rfl
set_option maxRecDepth 100000 in
theorem zc_zm_87 (env : List (Nat × Nat)) : zcode zX (z_QF zEX zcl zft) (z_zm zEX zX zWL zcl zft zYf) zYf zW zET zcl zft (zGv env) 87 zm_87 zm_87.1 := ⟨Or.inl ⟨1, zf_zm_87_0 env, zpc_c⟩,
  Or.inl ⟨4, zf_zm_87_1 env, zpc_c⟩,
  Or.inl ⟨5, zf_zm_87_2 env, zpc_c⟩,
  Or.inl ⟨6, zf_zm_87_3 env, zpc_c⟩,
  Or.inl ⟨8, zf_zm_87_4 env, zpc_c⟩,
  Or.inl ⟨11, zf_zm_87_5 env, zpc_c⟩,
  Or.inl ⟨12, zf_zm_87_6 env, zpc_c⟩,
  Or.inl ⟨13, zf_zm_87_7 env, zpc_c⟩,
  Or.inl ⟨15, zf_zm_87_8 env, zpc_c⟩,
  Or.inl ⟨18, zf_zm_87_9 env, zpc_c⟩,
  Or.inl ⟨19, zf_zm_87_10 env, zpc_c⟩,
  Or.inl ⟨20, zf_zm_87_11 env, zpc_c⟩,
  Or.inl ⟨23, zf_zm_87_12 env, zpc_c⟩,
  Or.inl ⟨24, zf_zm_87_13 env, zpc_c⟩,
  Or.inl ⟨25, zf_zm_87_14 env, zpc_c⟩,
  Or.inl ⟨28, zf_zm_87_15 env, zpc_c⟩,
  Or.inr (Or.inl (zf_zm_87_16 env)), trivial⟩
theorem zf_zm_88_0 (env : List (Nat × Nat)) : zI9 88 zY_88 zm_88 env (0, 0, 0, 0, 0) 1 := zi_aload_n (by decide +kernel : decode zY_88.2.1 0 = .ok (.aload_n 0, 1)) rfl
theorem zf_zm_88_1 (env : List (Nat × Nat)) : zI9 88 zY_88 zm_88 env (1, 60, 0, 0, 0) 4 := zi_obj (i := 1) (by decide +kernel : decode zY_88.2.1 1 = .ok (.invokespecial 1, 3)) (zw_T zwd_424) (zw_T zwd_11) (zw_T zwd_12)
theorem zf_zm_88_2 (env : List (Nat × Nat)) : zI9 88 zY_88 zm_88 env (4, 0, 0, 0, 0) 5 := zi_aload_n (by decide +kernel : decode zY_88.2.1 4 = .ok (.aload_n 0, 1)) rfl
theorem zf_zm_88_3 (env : List (Nat × Nat)) : zI9 88 zY_88 zm_88 env (5, 2, 64, 0, 0) 7 := zi_bipush (by decide +kernel : decode zY_88.2.1 5 = .ok (.bipush 64, 2)) (by decide +kernel)
theorem zf_zm_88_4 (env : List (Nat × Nat)) : zI9 88 zY_88 zm_88 env (7, 12, 0, 0, 0) 9 := zi_newI (by decide +kernel : decode zY_88.2.1 7 = .ok (.newarray .int, 2)) (zw_T zwd_16) rfl rfl (by decide) rfl
theorem zf_zm_88_5 (env : List (Nat × Nat)) : zI9 88 zY_88 zm_88 env (9, 4, 8, 0, 2) 12 := zi_putfF (i := 7) (N := 15) (C := "TransportPair$Seals") (ref := "TransportPair$Seals") (T := zF_8) (by decide +kernel : decode zY_88.2.1 9 = .ok (.putfield 7, 3)) rfl zuw_8 zFt_8 zFn_8 (by decide) (zw_T zwd_425) rfl rfl rfl rfl (ty := .array .int) (by decide +kernel) (Or.inr ⟨_, rfl⟩)
theorem zf_zm_88_6 (env : List (Nat × Nat)) : zI9 88 zY_88 zm_88 env (12, 0, 0, 0, 0) 13 := zi_aload_n (by decide +kernel : decode zY_88.2.1 12 = .ok (.aload_n 0, 1)) rfl
theorem zf_zm_88_7 (env : List (Nat × Nat)) : zI9 88 zY_88 zm_88 env (13, 2, 8, 0, 0) 15 := zi_bipush (by decide +kernel : decode zY_88.2.1 13 = .ok (.bipush 8, 2)) (by decide +kernel)
theorem zf_zm_88_8 (env : List (Nat × Nat)) : zI9 88 zY_88 zm_88 env (15, 12, 0, 0, 0) 17 := zi_newI (by decide +kernel : decode zY_88.2.1 15 = .ok (.newarray .int, 2)) (zw_T zwd_16) rfl rfl (by decide) rfl
theorem zf_zm_88_9 (env : List (Nat × Nat)) : zI9 88 zY_88 zm_88 env (17, 4, 8, 1, 2) 20 := zi_putfF (i := 13) (N := 15) (C := "TransportPair$Seals") (ref := "TransportPair$Seals") (T := zF_8) (by decide +kernel : decode zY_88.2.1 17 = .ok (.putfield 13, 3)) rfl zuw_8 zFt_8 zFn_8 (by decide) (zw_T zwd_426) rfl rfl rfl rfl (ty := .array .int) (by decide +kernel) (Or.inr ⟨_, rfl⟩)
theorem zf_zm_88_10 (env : List (Nat × Nat)) : zI9 88 zY_88 zm_88 env (20, 0, 0, 0, 0) 21 := zi_aload_n (by decide +kernel : decode zY_88.2.1 20 = .ok (.aload_n 0, 1)) rfl
theorem zf_zm_88_11 (env : List (Nat × Nat)) : zI9 88 zY_88 zm_88 env (21, 2, 8, 0, 0) 23 := zi_bipush (by decide +kernel : decode zY_88.2.1 21 = .ok (.bipush 8, 2)) (by decide +kernel)
theorem zf_zm_88_12 (env : List (Nat × Nat)) : zI9 88 zY_88 zm_88 env (23, 12, 0, 0, 0) 25 := zi_newI (by decide +kernel : decode zY_88.2.1 23 = .ok (.newarray .int, 2)) (zw_T zwd_16) rfl rfl (by decide) rfl
theorem zf_zm_88_13 (env : List (Nat × Nat)) : zI9 88 zY_88 zm_88 env (25, 4, 8, 2, 2) 28 := zi_putfF (i := 16) (N := 15) (C := "TransportPair$Seals") (ref := "TransportPair$Seals") (T := zF_8) (by decide +kernel : decode zY_88.2.1 25 = .ok (.putfield 16, 3)) rfl zuw_8 zFt_8 zFn_8 (by decide) (zw_T zwd_427) rfl rfl rfl rfl (ty := .array .int) (by decide +kernel) (Or.inr ⟨_, rfl⟩)
theorem zf_zm_88_14 (env : List (Nat × Nat)) : zI9 88 zY_88 zm_88 env (28, 0, 0, 0, 0) 29 := zi_aload_n (by decide +kernel : decode zY_88.2.1 28 = .ok (.aload_n 0, 1)) rfl
theorem zf_zm_88_15 (env : List (Nat × Nat)) : zI9 88 zY_88 zm_88 env (29, 2, 160, 0, 0) 32 := zi_sipush (by decide +kernel : decode zY_88.2.1 29 = .ok (.sipush 160, 3)) (by decide +kernel)
theorem zf_zm_88_16 (env : List (Nat × Nat)) : zI9 88 zY_88 zm_88 env (32, 12, 0, 1, 0) 34 := zi_newI (by decide +kernel : decode zY_88.2.1 32 = .ok (.newarray .byte, 2)) (zw_T zwd_79) rfl rfl (by decide) rfl
theorem zf_zm_88_17 (env : List (Nat × Nat)) : zI9 88 zY_88 zm_88 env (34, 4, 8, 3, 2) 37 := zi_putfF (i := 19) (N := 15) (C := "TransportPair$Seals") (ref := "TransportPair$Seals") (T := zF_8) (by decide +kernel : decode zY_88.2.1 34 = .ok (.putfield 19, 3)) rfl zuw_8 zFt_8 zFn_8 (by decide) (zw_T zwd_428) rfl rfl rfl rfl (ty := .array .byte) (by decide +kernel) (Or.inr ⟨_, rfl⟩)
theorem zf_zm_88_18 (env : List (Nat × Nat)) : zI9 88 zY_88 zm_88 env (37, 0, 0, 0, 0) 38 := zi_aload_n (by decide +kernel : decode zY_88.2.1 37 = .ok (.aload_n 0, 1)) rfl
theorem zf_zm_88_19 (env : List (Nat × Nat)) : zI9 88 zY_88 zm_88 env (38, 2, 96, 0, 0) 40 := zi_bipush (by decide +kernel : decode zY_88.2.1 38 = .ok (.bipush 96, 2)) (by decide +kernel)
theorem zf_zm_88_20 (env : List (Nat × Nat)) : zI9 88 zY_88 zm_88 env (40, 12, 0, 1, 0) 42 := zi_newI (by decide +kernel : decode zY_88.2.1 40 = .ok (.newarray .byte, 2)) (zw_T zwd_79) rfl rfl (by decide) rfl
theorem zf_zm_88_21 (env : List (Nat × Nat)) : zI9 88 zY_88 zm_88 env (42, 4, 8, 4, 2) 45 := zi_putfF (i := 23) (N := 15) (C := "TransportPair$Seals") (ref := "TransportPair$Seals") (T := zF_8) (by decide +kernel : decode zY_88.2.1 42 = .ok (.putfield 23, 3)) rfl zuw_8 zFt_8 zFn_8 (by decide) (zw_T zwd_429) rfl rfl rfl rfl (ty := .array .byte) (by decide +kernel) (Or.inr ⟨_, rfl⟩)
theorem zf_zm_88_22 (env : List (Nat × Nat)) : zI9 88 zY_88 zm_88 env (45, 0, 0, 0, 0) 46 := zi_aload_n (by decide +kernel : decode zY_88.2.1 45 = .ok (.aload_n 0, 1)) rfl
theorem zf_zm_88_23 (env : List (Nat × Nat)) : zI9 88 zY_88 zm_88 env (46, 2, 64, 0, 0) 48 := zi_bipush (by decide +kernel : decode zY_88.2.1 46 = .ok (.bipush 64, 2)) (by decide +kernel)
theorem zf_zm_88_24 (env : List (Nat × Nat)) : zI9 88 zY_88 zm_88 env (48, 12, 0, 1, 0) 50 := zi_newI (by decide +kernel : decode zY_88.2.1 48 = .ok (.newarray .byte, 2)) (zw_T zwd_79) rfl rfl (by decide) rfl
theorem zf_zm_88_25 (env : List (Nat × Nat)) : zI9 88 zY_88 zm_88 env (50, 4, 8, 5, 2) 53 := zi_putfF (i := 26) (N := 15) (C := "TransportPair$Seals") (ref := "TransportPair$Seals") (T := zF_8) (by decide +kernel : decode zY_88.2.1 50 = .ok (.putfield 26, 3)) rfl zuw_8 zFt_8 zFn_8 (by decide) (zw_T zwd_430) rfl rfl rfl rfl (ty := .array .byte) (by decide +kernel) (Or.inr ⟨_, rfl⟩)
theorem zf_zm_88_26 (env : List (Nat × Nat)) : zI9 88 zY_88 zm_88 env (53, 0, 0, 0, 0) 54 := zi_aload_n (by decide +kernel : decode zY_88.2.1 53 = .ok (.aload_n 0, 1)) rfl
theorem zf_zm_88_27 (env : List (Nat × Nat)) : zI9 88 zY_88 zm_88 env (54, 2, 32, 0, 0) 56 := zi_bipush (by decide +kernel : decode zY_88.2.1 54 = .ok (.bipush 32, 2)) (by decide +kernel)
theorem zf_zm_88_28 (env : List (Nat × Nat)) : zI9 88 zY_88 zm_88 env (56, 12, 0, 1, 0) 58 := zi_newI (by decide +kernel : decode zY_88.2.1 56 = .ok (.newarray .byte, 2)) (zw_T zwd_79) rfl rfl (by decide) rfl
theorem zf_zm_88_29 (env : List (Nat × Nat)) : zI9 88 zY_88 zm_88 env (58, 4, 8, 6, 2) 61 := zi_putfF (i := 29) (N := 15) (C := "TransportPair$Seals") (ref := "TransportPair$Seals") (T := zF_8) (by decide +kernel : decode zY_88.2.1 58 = .ok (.putfield 29, 3)) rfl zuw_8 zFt_8 zFn_8 (by decide) (zw_T zwd_431) rfl rfl rfl rfl (ty := .array .byte) (by decide +kernel) (Or.inr ⟨_, rfl⟩)
theorem zf_zm_88_30 (env : List (Nat × Nat)) : zI9 88 zY_88 zm_88 env (61, 0, 0, 0, 0) 62 := zi_aload_n (by decide +kernel : decode zY_88.2.1 61 = .ok (.aload_n 0, 1)) rfl
theorem zf_zm_88_31 (env : List (Nat × Nat)) : zI9 88 zY_88 zm_88 env (62, 2, 16, 0, 0) 64 := zi_bipush (by decide +kernel : decode zY_88.2.1 62 = .ok (.bipush 16, 2)) (by decide +kernel)
theorem zf_zm_88_32 (env : List (Nat × Nat)) : zI9 88 zY_88 zm_88 env (64, 12, 0, 0, 0) 66 := zi_newI (by decide +kernel : decode zY_88.2.1 64 = .ok (.newarray .int, 2)) (zw_T zwd_16) rfl rfl (by decide) rfl
theorem zf_zm_88_33 (env : List (Nat × Nat)) : zI9 88 zY_88 zm_88 env (66, 4, 8, 7, 2) 69 := zi_putfF (i := 32) (N := 15) (C := "TransportPair$Seals") (ref := "TransportPair$Seals") (T := zF_8) (by decide +kernel : decode zY_88.2.1 66 = .ok (.putfield 32, 3)) rfl zuw_8 zFt_8 zFn_8 (by decide) (zw_T zwd_432) rfl rfl rfl rfl (ty := .array .int) (by decide +kernel) (Or.inr ⟨_, rfl⟩)
theorem zf_zm_88_34 (env : List (Nat × Nat)) : zI9 88 zY_88 zm_88 env (69, 0, 0, 0, 0) 70 := zi_aload_n (by decide +kernel : decode zY_88.2.1 69 = .ok (.aload_n 0, 1)) rfl
theorem zf_zm_88_35 (env : List (Nat × Nat)) : zI9 88 zY_88 zm_88 env (70, 2, 16, 0, 0) 72 := zi_bipush (by decide +kernel : decode zY_88.2.1 70 = .ok (.bipush 16, 2)) (by decide +kernel)
theorem zf_zm_88_36 (env : List (Nat × Nat)) : zI9 88 zY_88 zm_88 env (72, 12, 0, 0, 0) 74 := zi_newI (by decide +kernel : decode zY_88.2.1 72 = .ok (.newarray .int, 2)) (zw_T zwd_16) rfl rfl (by decide) rfl
theorem zf_zm_88_37 (env : List (Nat × Nat)) : zI9 88 zY_88 zm_88 env (74, 4, 8, 8, 2) 77 := zi_putfF (i := 35) (N := 15) (C := "TransportPair$Seals") (ref := "TransportPair$Seals") (T := zF_8) (by decide +kernel : decode zY_88.2.1 74 = .ok (.putfield 35, 3)) rfl zuw_8 zFt_8 zFn_8 (by decide) (zw_T zwd_433) rfl rfl rfl rfl (ty := .array .int) (by decide +kernel) (Or.inr ⟨_, rfl⟩)
theorem zf_zm_88_38 (env : List (Nat × Nat)) : zI9 88 zY_88 zm_88 env (77, 0, 0, 0, 0) 78 := zi_aload_n (by decide +kernel : decode zY_88.2.1 77 = .ok (.aload_n 0, 1)) rfl
theorem zf_zm_88_39 (env : List (Nat × Nat)) : zI9 88 zY_88 zm_88 env (78, 2, 64, 0, 0) 80 := zi_bipush (by decide +kernel : decode zY_88.2.1 78 = .ok (.bipush 64, 2)) (by decide +kernel)
theorem zf_zm_88_40 (env : List (Nat × Nat)) : zI9 88 zY_88 zm_88 env (80, 12, 0, 1, 0) 82 := zi_newI (by decide +kernel : decode zY_88.2.1 80 = .ok (.newarray .byte, 2)) (zw_T zwd_79) rfl rfl (by decide) rfl
theorem zf_zm_88_41 (env : List (Nat × Nat)) : zI9 88 zY_88 zm_88 env (82, 4, 8, 9, 2) 85 := zi_putfF (i := 38) (N := 15) (C := "TransportPair$Seals") (ref := "TransportPair$Seals") (T := zF_8) (by decide +kernel : decode zY_88.2.1 82 = .ok (.putfield 38, 3)) rfl zuw_8 zFt_8 zFn_8 (by decide) (zw_T zwd_434) rfl rfl rfl rfl (ty := .array .byte) (by decide +kernel) (Or.inr ⟨_, rfl⟩)
theorem zf_zm_88_42 (env : List (Nat × Nat)) : zI9 88 zY_88 zm_88 env (85, 0, 0, 0, 0) 86 := zi_aload_n (by decide +kernel : decode zY_88.2.1 85 = .ok (.aload_n 0, 1)) rfl
theorem zf_zm_88_43 (env : List (Nat × Nat)) : zI9 88 zY_88 zm_88 env (86, 2, 12, 0, 0) 88 := zi_bipush (by decide +kernel : decode zY_88.2.1 86 = .ok (.bipush 12, 2)) (by decide +kernel)
theorem zf_zm_88_44 (env : List (Nat × Nat)) : zI9 88 zY_88 zm_88 env (88, 12, 0, 1, 0) 90 := zi_newI (by decide +kernel : decode zY_88.2.1 88 = .ok (.newarray .byte, 2)) (zw_T zwd_79) rfl rfl (by decide) rfl
theorem zf_zm_88_45 (env : List (Nat × Nat)) : zI9 88 zY_88 zm_88 env (90, 4, 8, 10, 2) 93 := zi_putfF (i := 41) (N := 15) (C := "TransportPair$Seals") (ref := "TransportPair$Seals") (T := zF_8) (by decide +kernel : decode zY_88.2.1 90 = .ok (.putfield 41, 3)) rfl zuw_8 zFt_8 zFn_8 (by decide) (zw_T zwd_435) rfl rfl rfl rfl (ty := .array .byte) (by decide +kernel) (Or.inr ⟨_, rfl⟩)
theorem zf_zm_88_46 (env : List (Nat × Nat)) : zI9 88 zY_88 zm_88 env (93, 0, 0, 0, 0) 94 := zi_aload_n (by decide +kernel : decode zY_88.2.1 93 = .ok (.aload_n 0, 1)) rfl
theorem zf_zm_88_47 (env : List (Nat × Nat)) : zI9 88 zY_88 zm_88 env (94, 2, 16, 0, 0) 96 := zi_bipush (by decide +kernel : decode zY_88.2.1 94 = .ok (.bipush 16, 2)) (by decide +kernel)
theorem zf_zm_88_48 (env : List (Nat × Nat)) : zI9 88 zY_88 zm_88 env (96, 12, 0, 1, 0) 98 := zi_newI (by decide +kernel : decode zY_88.2.1 96 = .ok (.newarray .byte, 2)) (zw_T zwd_79) rfl rfl (by decide) rfl
theorem zf_zm_88_49 (env : List (Nat × Nat)) : zI9 88 zY_88 zm_88 env (98, 4, 8, 11, 2) 101 := zi_putfF (i := 44) (N := 15) (C := "TransportPair$Seals") (ref := "TransportPair$Seals") (T := zF_8) (by decide +kernel : decode zY_88.2.1 98 = .ok (.putfield 44, 3)) rfl zuw_8 zFt_8 zFn_8 (by decide) (zw_T zwd_436) rfl rfl rfl rfl (ty := .array .byte) (by decide +kernel) (Or.inr ⟨_, rfl⟩)
theorem zf_zm_88_50 (env : List (Nat × Nat)) : zI9 88 zY_88 zm_88 env (101, 0, 0, 0, 0) 102 := zi_aload_n (by decide +kernel : decode zY_88.2.1 101 = .ok (.aload_n 0, 1)) rfl
theorem zf_zm_88_51 (env : List (Nat × Nat)) : zI9 88 zY_88 zm_88 env (102, 2, 16, 0, 0) 104 := zi_bipush (by decide +kernel : decode zY_88.2.1 102 = .ok (.bipush 16, 2)) (by decide +kernel)
theorem zf_zm_88_52 (env : List (Nat × Nat)) : zI9 88 zY_88 zm_88 env (104, 12, 0, 1, 0) 106 := zi_newI (by decide +kernel : decode zY_88.2.1 104 = .ok (.newarray .byte, 2)) (zw_T zwd_79) rfl rfl (by decide) rfl
theorem zf_zm_88_53 (env : List (Nat × Nat)) : zI9 88 zY_88 zm_88 env (106, 4, 8, 12, 2) 109 := zi_putfF (i := 47) (N := 15) (C := "TransportPair$Seals") (ref := "TransportPair$Seals") (T := zF_8) (by decide +kernel : decode zY_88.2.1 106 = .ok (.putfield 47, 3)) rfl zuw_8 zFt_8 zFn_8 (by decide) (zw_T zwd_437) rfl rfl rfl rfl (ty := .array .byte) (by decide +kernel) (Or.inr ⟨_, rfl⟩)
theorem zf_zm_88_54 (env : List (Nat × Nat)) : zI9 88 zY_88 zm_88 env (109, 0, 0, 0, 0) 110 := zi_aload_n (by decide +kernel : decode zY_88.2.1 109 = .ok (.aload_n 0, 1)) rfl
theorem zf_zm_88_55 (env : List (Nat × Nat)) : zI9 88 zY_88 zm_88 env (110, 2, 5, 0, 0) 111 := zi_iconst (by decide +kernel : decode zY_88.2.1 110 = .ok (.iconst 5, 1)) (by decide +kernel)
theorem zf_zm_88_56 (env : List (Nat × Nat)) : zI9 88 zY_88 zm_88 env (111, 12, 1, 3, 0) 113 := zi_newL (by decide +kernel : decode zY_88.2.1 111 = .ok (.newarray .long, 2)) (zw_T zwd_13) rfl rfl
theorem zf_zm_88_57 (env : List (Nat × Nat)) : zI9 88 zY_88 zm_88 env (113, 4, 8, 13, 2) 116 := zi_putfF (i := 50) (N := 15) (C := "TransportPair$Seals") (ref := "TransportPair$Seals") (T := zF_8) (by decide +kernel : decode zY_88.2.1 113 = .ok (.putfield 50, 3)) rfl zuw_8 zFt_8 zFn_8 (by decide) (zw_T zwd_438) rfl rfl rfl rfl (ty := .array .long) (by decide +kernel) (Or.inr ⟨_, rfl⟩)
theorem zf_zm_88_58 (env : List (Nat × Nat)) : zI9 88 zY_88 zm_88 env (116, 0, 0, 0, 0) 117 := zi_aload_n (by decide +kernel : decode zY_88.2.1 116 = .ok (.aload_n 0, 1)) rfl
theorem zf_zm_88_59 (env : List (Nat × Nat)) : zI9 88 zY_88 zm_88 env (117, 2, 5, 0, 0) 118 := zi_iconst (by decide +kernel : decode zY_88.2.1 117 = .ok (.iconst 5, 1)) (by decide +kernel)
theorem zf_zm_88_60 (env : List (Nat × Nat)) : zI9 88 zY_88 zm_88 env (118, 12, 1, 3, 0) 120 := zi_newL (by decide +kernel : decode zY_88.2.1 118 = .ok (.newarray .long, 2)) (zw_T zwd_13) rfl rfl
theorem zf_zm_88_61 (env : List (Nat × Nat)) : zI9 88 zY_88 zm_88 env (120, 4, 8, 14, 2) 123 := zi_putfF (i := 54) (N := 15) (C := "TransportPair$Seals") (ref := "TransportPair$Seals") (T := zF_8) (by decide +kernel : decode zY_88.2.1 120 = .ok (.putfield 54, 3)) rfl zuw_8 zFt_8 zFn_8 (by decide) (zw_T zwd_439) rfl rfl rfl rfl (ty := .array .long) (by decide +kernel) (Or.inr ⟨_, rfl⟩)
theorem zf_zm_88_62 (env : List (Nat × Nat)) : zR9 88 env (123, 21, 0, 0, 0) := zi_vret (by decide +kernel : decode (zYf 88).2.1 123 = .ok (.return_, 1)) rfl
set_option maxRecDepth 100000 in
theorem zc_zm_88 (env : List (Nat × Nat)) : zcode zX (z_QF zEX zcl zft) (z_zm zEX zX zWL zcl zft zYf) zYf zW zET zcl zft (zGv env) 88 zm_88 zm_88.1 := ⟨Or.inl ⟨1, zf_zm_88_0 env, zpc_c⟩,
  Or.inl ⟨4, zf_zm_88_1 env, zpc_c⟩,
  Or.inl ⟨5, zf_zm_88_2 env, zpc_c⟩,
  Or.inl ⟨7, zf_zm_88_3 env, zpc_c⟩,
  Or.inl ⟨9, zf_zm_88_4 env, zpc_c⟩,
  Or.inl ⟨12, zf_zm_88_5 env, zpc_c⟩,
  Or.inl ⟨13, zf_zm_88_6 env, zpc_c⟩,
  Or.inl ⟨15, zf_zm_88_7 env, zpc_c⟩,
  Or.inl ⟨17, zf_zm_88_8 env, zpc_c⟩,
  Or.inl ⟨20, zf_zm_88_9 env, zpc_c⟩,
  Or.inl ⟨21, zf_zm_88_10 env, zpc_c⟩,
  Or.inl ⟨23, zf_zm_88_11 env, zpc_c⟩,
  Or.inl ⟨25, zf_zm_88_12 env, zpc_c⟩,
  Or.inl ⟨28, zf_zm_88_13 env, zpc_c⟩,
  Or.inl ⟨29, zf_zm_88_14 env, zpc_c⟩,
  Or.inl ⟨32, zf_zm_88_15 env, zpc_c⟩,
  Or.inl ⟨34, zf_zm_88_16 env, zpc_c⟩,
  Or.inl ⟨37, zf_zm_88_17 env, zpc_c⟩,
  Or.inl ⟨38, zf_zm_88_18 env, zpc_c⟩,
  Or.inl ⟨40, zf_zm_88_19 env, zpc_c⟩,
  Or.inl ⟨42, zf_zm_88_20 env, zpc_c⟩,
  Or.inl ⟨45, zf_zm_88_21 env, zpc_c⟩,
  Or.inl ⟨46, zf_zm_88_22 env, zpc_c⟩,
  Or.inl ⟨48, zf_zm_88_23 env, zpc_c⟩,
  Or.inl ⟨50, zf_zm_88_24 env, zpc_c⟩,
  Or.inl ⟨53, zf_zm_88_25 env, zpc_c⟩,
  Or.inl ⟨54, zf_zm_88_26 env, zpc_c⟩,
  Or.inl ⟨56, zf_zm_88_27 env, zpc_c⟩,
  Or.inl ⟨58, zf_zm_88_28 env, zpc_c⟩,
  Or.inl ⟨61, zf_zm_88_29 env, zpc_c⟩,
  Or.inl ⟨62, zf_zm_88_30 env, zpc_c⟩,
  Or.inl ⟨64, zf_zm_88_31 env, zpc_c⟩,
  Or.inl ⟨66, zf_zm_88_32 env, zpc_c⟩,
  Or.inl ⟨69, zf_zm_88_33 env, zpc_c⟩,
  Or.inl ⟨70, zf_zm_88_34 env, zpc_c⟩,
  Or.inl ⟨72, zf_zm_88_35 env, zpc_c⟩,
  Or.inl ⟨74, zf_zm_88_36 env, zpc_c⟩,
  Or.inl ⟨77, zf_zm_88_37 env, zpc_c⟩,
  Or.inl ⟨78, zf_zm_88_38 env, zpc_c⟩,
  Or.inl ⟨80, zf_zm_88_39 env, zpc_c⟩,
  Or.inl ⟨82, zf_zm_88_40 env, zpc_c⟩,
  Or.inl ⟨85, zf_zm_88_41 env, zpc_c⟩,
  Or.inl ⟨86, zf_zm_88_42 env, zpc_c⟩,
  Or.inl ⟨88, zf_zm_88_43 env, zpc_c⟩,
  Or.inl ⟨90, zf_zm_88_44 env, zpc_c⟩,
  Or.inl ⟨93, zf_zm_88_45 env, zpc_c⟩,
  Or.inl ⟨94, zf_zm_88_46 env, zpc_c⟩,
  Or.inl ⟨96, zf_zm_88_47 env, zpc_c⟩,
  Or.inl ⟨98, zf_zm_88_48 env, zpc_c⟩,
  Or.inl ⟨101, zf_zm_88_49 env, zpc_c⟩,
  Or.inl ⟨102, zf_zm_88_50 env, zpc_c⟩,
  Or.inl ⟨104, zf_zm_88_51 env, zpc_c⟩,
  Or.inl ⟨106, zf_zm_88_52 env, zpc_c⟩,
  Or.inl ⟨109, zf_zm_88_53 env, zpc_c⟩,
  Or.inl ⟨110, zf_zm_88_54 env, zpc_c⟩,
  Or.inl ⟨111, zf_zm_88_55 env, zpc_c⟩,
  Or.inl ⟨113, zf_zm_88_56 env, zpc_c⟩,
  Or.inl ⟨116, zf_zm_88_57 env, zpc_c⟩,
  Or.inl ⟨117, zf_zm_88_58 env, zpc_c⟩,
  Or.inl ⟨118, zf_zm_88_59 env, zpc_c⟩,
  Or.inl ⟨120, zf_zm_88_60 env, zpc_c⟩,
  Or.inl ⟨123, zf_zm_88_61 env, zpc_c⟩,
  Or.inr (Or.inl (zf_zm_88_62 env)), trivial⟩
theorem zf_zm_89_0 (env : List (Nat × Nat)) : zI9 89 zY_89 zm_89 env (0, 0, 0, 0, 0) 1 := zi_aload_n (by decide +kernel : decode zY_89.2.1 0 = .ok (.aload_n 0, 1)) rfl
theorem zf_zm_89_1 (env : List (Nat × Nat)) : zI9 89 zY_89 zm_89 env (1, 60, 0, 0, 0) 4 := zi_obj (i := 1) (by decide +kernel : decode zY_89.2.1 1 = .ok (.invokespecial 1, 3)) (zw_T zwd_440) (zw_T zwd_11) (zw_T zwd_12)
theorem zf_zm_89_2 (env : List (Nat × Nat)) : zI9 89 zY_89 zm_89 env (4, 0, 0, 0, 0) 5 := zi_aload_n (by decide +kernel : decode zY_89.2.1 4 = .ok (.aload_n 0, 1)) rfl
theorem zf_zm_89_3 (env : List (Nat × Nat)) : zI9 89 zY_89 zm_89 env (5, 2, 0, 0, 0) 6 := zi_iconst (by decide +kernel : decode zY_89.2.1 5 = .ok (.iconst 0, 1)) (by decide +kernel)
theorem zf_zm_89_4 (env : List (Nat × Nat)) : zI9 89 zY_89 zm_89 env (6, 12, 0, 1, 0) 8 := zi_newI (by decide +kernel : decode zY_89.2.1 6 = .ok (.newarray .byte, 2)) (zw_T zwd_79) rfl rfl (by decide) rfl
theorem zf_zm_89_5 (env : List (Nat × Nat)) : zI9 89 zY_89 zm_89 env (8, 4, 9, 1, 2) 11 := zi_putf (i := 7) (N := 15) (C := "TransportPair$Sending") (ref := "TransportPair$Sending") (T := zF_9) (by decide +kernel : decode zY_89.2.1 8 = .ok (.putfield 7, 3)) rfl zuw_9 zFt_9 zFn_9 (by decide) (zw_T zwd_441) rfl rfl (ty := .array .byte) (by decide +kernel) (Or.inr ⟨_, rfl⟩)
theorem zf_zm_89_6 (env : List (Nat × Nat)) : zI9 89 zY_89 zm_89 env (11, 0, 0, 0, 0) 12 := zi_aload_n (by decide +kernel : decode zY_89.2.1 11 = .ok (.aload_n 0, 1)) rfl
theorem zf_zm_89_7 (env : List (Nat × Nat)) : zI9 89 zY_89 zm_89 env (12, 2, 0, 0, 0) 13 := zi_iconst (by decide +kernel : decode zY_89.2.1 12 = .ok (.iconst 0, 1)) (by decide +kernel)
theorem zf_zm_89_8 (env : List (Nat × Nat)) : zI9 89 zY_89 zm_89 env (13, 12, 0, 1, 0) 15 := zi_newI (by decide +kernel : decode zY_89.2.1 13 = .ok (.newarray .byte, 2)) (zw_T zwd_79) rfl rfl (by decide) rfl
theorem zf_zm_89_9 (env : List (Nat × Nat)) : zI9 89 zY_89 zm_89 env (15, 4, 9, 2, 2) 18 := zi_putf (i := 13) (N := 15) (C := "TransportPair$Sending") (ref := "TransportPair$Sending") (T := zF_9) (by decide +kernel : decode zY_89.2.1 15 = .ok (.putfield 13, 3)) rfl zuw_9 zFt_9 zFn_9 (by decide) (zw_T zwd_442) rfl rfl (ty := .array .byte) (by decide +kernel) (Or.inr ⟨_, rfl⟩)
theorem zf_zm_89_10 (env : List (Nat × Nat)) : zI9 89 zY_89 zm_89 env (18, 0, 0, 0, 0) 19 := zi_aload_n (by decide +kernel : decode zY_89.2.1 18 = .ok (.aload_n 0, 1)) rfl
theorem zf_zm_89_11 (env : List (Nat × Nat)) : zI9 89 zY_89 zm_89 env (19, 15, 18446744073709551615, 0, 0) 22 := zi_ldc2 (v := (-1)) (by decide +kernel : decode zY_89.2.1 19 = .ok (.ldc2_w 16, 3)) (by decide +kernel) (zw_T zwd_443)
theorem zf_zm_89_12 (env : List (Nat × Nat)) : zI9 89 zY_89 zm_89 env (22, 4, 9, 12, 1) 25 := zi_putf (i := 18) (N := 15) (C := "TransportPair$Sending") (ref := "TransportPair$Sending") (T := zF_9) (by decide +kernel : decode zY_89.2.1 22 = .ok (.putfield 18, 3)) rfl zuw_9 zFt_9 zFn_9 (by decide) (zw_T zwd_444) rfl rfl (ty := .long) (by decide +kernel) (rfl)
theorem zf_zm_89_13 (env : List (Nat × Nat)) : zI9 89 zY_89 zm_89 env (25, 0, 0, 0, 0) 26 := zi_aload_n (by decide +kernel : decode zY_89.2.1 25 = .ok (.aload_n 0, 1)) rfl
theorem zf_zm_89_14 (env : List (Nat × Nat)) : zI9 89 zY_89 zm_89 env (26, 64, 1, 0, 0) 27 := zi_lload_n (by decide +kernel : decode zY_89.2.1 26 = .ok (.lload_n 1, 1)) rfl
theorem zf_zm_89_15 (env : List (Nat × Nat)) : zI9 89 zY_89 zm_89 env (27, 4, 9, 5, 1) 30 := zi_putf (i := 22) (N := 15) (C := "TransportPair$Sending") (ref := "TransportPair$Sending") (T := zF_9) (by decide +kernel : decode zY_89.2.1 27 = .ok (.putfield 22, 3)) rfl zuw_9 zFt_9 zFn_9 (by decide) (zw_T zwd_445) rfl rfl (ty := .long) (by decide +kernel) (rfl)
theorem zf_zm_89_16 (env : List (Nat × Nat)) : zR9 89 env (30, 21, 0, 0, 0) := zi_vret (by decide +kernel : decode (zYf 89).2.1 30 = .ok (.return_, 1)) rfl
set_option maxRecDepth 100000 in
theorem zc_zm_89 (env : List (Nat × Nat)) : zcode zX (z_QF zEX zcl zft) (z_zm zEX zX zWL zcl zft zYf) zYf zW zET zcl zft (zGv env) 89 zm_89 zm_89.1 := ⟨Or.inl ⟨1, zf_zm_89_0 env, zpc_c⟩,
  Or.inl ⟨4, zf_zm_89_1 env, zpc_c⟩,
  Or.inl ⟨5, zf_zm_89_2 env, zpc_c⟩,
  Or.inl ⟨6, zf_zm_89_3 env, zpc_c⟩,
  Or.inl ⟨8, zf_zm_89_4 env, zpc_c⟩,
  Or.inl ⟨11, zf_zm_89_5 env, zpc_c⟩,
  Or.inl ⟨12, zf_zm_89_6 env, zpc_c⟩,
  Or.inl ⟨13, zf_zm_89_7 env, zpc_c⟩,
  Or.inl ⟨15, zf_zm_89_8 env, zpc_c⟩,
  Or.inl ⟨18, zf_zm_89_9 env, zpc_c⟩,
  Or.inl ⟨19, zf_zm_89_10 env, zpc_c⟩,
  Or.inl ⟨22, zf_zm_89_11 env, zpc_c⟩,
  Or.inl ⟨25, zf_zm_89_12 env, zpc_c⟩,
  Or.inl ⟨26, zf_zm_89_13 env, zpc_c⟩,
  Or.inl ⟨27, zf_zm_89_14 env, zpc_c⟩,
  Or.inl ⟨30, zf_zm_89_15 env, zpc_c⟩,
  Or.inr (Or.inl (zf_zm_89_16 env)), trivial⟩
theorem zf_zm_90_0 (env : List (Nat × Nat)) : zI9 90 zY_90 zm_90 env (0, 63, 1, 0, 0) 1 := zi_iload_n (by decide +kernel : decode zY_90.2.1 0 = .ok (.iload_n 1, 1)) rfl
theorem zf_zm_90_1 (env : List (Nat × Nat)) : zI9 90 zY_90 zm_90 env (1, 0, 0, 0, 0) 2 := zi_aload_n (by decide +kernel : decode zY_90.2.1 1 = .ok (.aload_n 0, 1)) rfl
theorem zf_zm_90_2 (env : List (Nat × Nat)) : zI9 90 zY_90 zm_90 env (2, 47, 0, 0, 0) 3 := zi_alen (zslen_ok (by decide +kernel : decode zY_90.2.1 2 = .ok (.arraylength, 1))) (by decide +kernel : decode zY_90.2.1 2 = .ok (.arraylength, 1))
theorem zf_zm_90_3 (env : List (Nat × Nat)) : zI9 90 zY_90 zm_90 env (3, 31, 6, 0, 0) 6 := zi_icmp_gt (off := 5) (t := 8) (by decide +kernel : decode zY_90.2.1 3 = .ok (.if_icmp .gt 5, 3)) (by decide) (by decide +kernel)
theorem zf_zm_90_4 (env : List (Nat × Nat)) : zI9 90 zY_90 zm_90 env (6, 0, 0, 0, 0) 7 := zi_aload_n (by decide +kernel : decode zY_90.2.1 6 = .ok (.aload_n 0, 1)) rfl
theorem zf_zm_90_5 (env : List (Nat × Nat)) : zR9 90 env (7, 11, 2, 0, 0) := zi_aret (by decide +kernel : decode (zYf 90).2.1 7 = .ok (.areturn, 1)) rfl (Or.inr ⟨_, rfl⟩)
theorem zf_zm_90_6 (env : List (Nat × Nat)) : zI9 90 zY_90 zm_90 env (8, 99, 0, 0, 0) 0 := zi_none
set_option maxRecDepth 100000 in
theorem zc_zm_90 (env : List (Nat × Nat)) : zcode zX (z_QF zEX zcl zft) (z_zm zEX zX zWL zcl zft zYf) zYf zW zET zcl zft (zGv env) 90 zm_90 zm_90.1 := ⟨Or.inl ⟨1, zf_zm_90_0 env, zpc_c⟩,
  Or.inl ⟨2, zf_zm_90_1 env, zpc_c⟩,
  Or.inl ⟨3, zf_zm_90_2 env, zpc_c⟩,
  Or.inl ⟨6, zf_zm_90_3 env, zpc_c⟩,
  Or.inl ⟨7, zf_zm_90_4 env, zpc_c⟩,
  Or.inr (Or.inl (zf_zm_90_5 env)),
  Or.inl ⟨0, zf_zm_90_6 env, zpc_n⟩, trivial⟩
theorem zf_zm_91_0 (env : List (Nat × Nat)) : zI9 91 zY_91 zm_91 env (0, 0, 0, 0, 0) 1 := zi_aload_n (by decide +kernel : decode zY_91.2.1 0 = .ok (.aload_n 0, 1)) rfl
theorem zf_zm_91_1 (env : List (Nat × Nat)) : zI9 91 zY_91 zm_91 env (1, 60, 0, 0, 0) 4 := zi_obj (i := 1) (by decide +kernel : decode zY_91.2.1 1 = .ok (.invokespecial 1, 3)) (zw_T zwd_446) (zw_T zwd_11) (zw_T zwd_12)
theorem zf_zm_91_2 (env : List (Nat × Nat)) : zI9 91 zY_91 zm_91 env (4, 0, 0, 0, 0) 5 := zi_aload_n (by decide +kernel : decode zY_91.2.1 4 = .ok (.aload_n 0, 1)) rfl
theorem zf_zm_91_3 (env : List (Nat × Nat)) : zI9 91 zY_91 zm_91 env (5, 17, 6, 0, 21) 8 := zi_new (i := 7) (N := 21) (C := "TransportPair$Reader") (T := zF_6) (ds := [2, 0, 0, 0, 0, 0, 1, 1, 1, 0, 0, 2, 2, 0, 0, 0, 0, 0, 0, 0, 0]) (by decide +kernel : decode zY_91.2.1 5 = .ok (.new 7, 3)) rfl zuw_6 zFt_6 (zw_T zwd_447) (zw_T zwd_99) (zw_T zwd_100) rfl rfl rfl zFd_6
theorem zf_zm_91_4 (env : List (Nat × Nat)) : zI9 91 zY_91 zm_91 env (8, 13, 0, 0, 0) 9 := zi_dup (by decide +kernel : decode zY_91.2.1 8 = .ok (.dup, 1))
theorem zf_zm_91_5 (env : List (Nat × Nat)) : zC9 91 zm_91 env (9, 66, 86, 65, 1) := zi_call (by decide +kernel) (zr_IN (i := 9) (n := 0) zX_ok rfl (zgood_86) (by decide +kernel) (zw_T zwd_100) (zw_N zwd_448) rfl (zw_T zwd_102) rfl ⟨by decide +kernel, by decide +kernel, by decide +kernel⟩ rfl (by decide +kernel : decode (zYf 91).2.1 9 = .ok (.invokespecial 9, 3)))
theorem zf_zm_91_6 (env : List (Nat × Nat)) : zI9 91 zY_91 zm_91 env (12, 4, 10, 3, 2) 15 := zi_putfF (i := 10) (N := 22) (C := "TransportPair$Side") (ref := "TransportPair$Side") (T := zF_10) (by decide +kernel : decode zY_91.2.1 12 = .ok (.putfield 10, 3)) rfl zuw_10 zFt_10 zFn_10 (by decide) (zw_T zwd_449) rfl rfl rfl rfl (ty := .object "TransportPair$Reader") (by decide +kernel) (Or.inl ⟨_, rfl⟩)
theorem zf_zm_91_7 (env : List (Nat × Nat)) : zI9 91 zY_91 zm_91 env (15, 0, 0, 0, 0) 16 := zi_aload_n (by decide +kernel : decode zY_91.2.1 15 = .ok (.aload_n 0, 1)) rfl
theorem zf_zm_91_8 (env : List (Nat × Nat)) : zI9 91 zY_91 zm_91 env (16, 2, 8, 0, 0) 18 := zi_bipush (by decide +kernel : decode zY_91.2.1 16 = .ok (.bipush 8, 2)) (by decide +kernel)
theorem zf_zm_91_9 (env : List (Nat × Nat)) : zI9 91 zY_91 zm_91 env (18, 12, 0, 1, 0) 20 := zi_newI (by decide +kernel : decode zY_91.2.1 18 = .ok (.newarray .byte, 2)) (zw_T zwd_79) rfl rfl (by decide) rfl
theorem zf_zm_91_10 (env : List (Nat × Nat)) : zI9 91 zY_91 zm_91 env (20, 4, 10, 9, 2) 23 := zi_putfF (i := 16) (N := 22) (C := "TransportPair$Side") (ref := "TransportPair$Side") (T := zF_10) (by decide +kernel : decode zY_91.2.1 20 = .ok (.putfield 16, 3)) rfl zuw_10 zFt_10 zFn_10 (by decide) (zw_T zwd_450) rfl rfl rfl rfl (ty := .array .byte) (by decide +kernel) (Or.inr ⟨_, rfl⟩)
theorem zf_zm_91_11 (env : List (Nat × Nat)) : zI9 91 zY_91 zm_91 env (23, 0, 0, 0, 0) 24 := zi_aload_n (by decide +kernel : decode zY_91.2.1 23 = .ok (.aload_n 0, 1)) rfl
theorem zf_zm_91_12 (env : List (Nat × Nat)) : zI9 91 zY_91 zm_91 env (24, 2, 17, 0, 0) 26 := zi_bipush (by decide +kernel : decode zY_91.2.1 24 = .ok (.bipush 17, 2)) (by decide +kernel)
theorem zf_zm_91_13 (env : List (Nat × Nat)) : zI9 91 zY_91 zm_91 env (26, 12, 1, 3, 0) 28 := zi_newL (by decide +kernel : decode zY_91.2.1 26 = .ok (.newarray .long, 2)) (zw_T zwd_13) rfl rfl
theorem zf_zm_91_14 (env : List (Nat × Nat)) : zI9 91 zY_91 zm_91 env (28, 4, 10, 18, 2) 31 := zi_putfF (i := 20) (N := 22) (C := "TransportPair$Side") (ref := "TransportPair$Side") (T := zF_10) (by decide +kernel : decode zY_91.2.1 28 = .ok (.putfield 20, 3)) rfl zuw_10 zFt_10 zFn_10 (by decide) (zw_T zwd_451) rfl rfl rfl rfl (ty := .array .long) (by decide +kernel) (Or.inr ⟨_, rfl⟩)
theorem zf_zm_91_15 (env : List (Nat × Nat)) : zI9 91 zY_91 zm_91 env (31, 2, 10, 0, 0) 33 := zi_bipush (by decide +kernel : decode zY_91.2.1 31 = .ok (.bipush 10, 2)) (by decide +kernel)
theorem zf_zm_91_16 (env : List (Nat × Nat)) : zI9 91 zY_91 zm_91 env (33, 12, 0, 0, 0) 35 := zi_newI (by decide +kernel : decode zY_91.2.1 33 = .ok (.newarray .int, 2)) (zw_T zwd_16) rfl rfl (by decide) rfl
theorem zf_zm_91_17 (env : List (Nat × Nat)) : zI9 91 zY_91 zm_91 env (35, 13, 0, 0, 0) 36 := zi_dup (by decide +kernel : decode zY_91.2.1 35 = .ok (.dup, 1))
theorem zf_zm_91_18 (env : List (Nat × Nat)) : zI9 91 zY_91 zm_91 env (36, 2, 0, 0, 0) 37 := zi_iconst (by decide +kernel : decode zY_91.2.1 36 = .ok (.iconst 0, 1)) (by decide +kernel)
theorem zf_zm_91_19 (env : List (Nat × Nat)) : zI9 91 zY_91 zm_91 env (37, 2, 0, 0, 0) 38 := zi_iconst (by decide +kernel : decode zY_91.2.1 37 = .ok (.iconst 0, 1)) (by decide +kernel)
theorem zf_zm_91_20 (env : List (Nat × Nat)) : zI9 91 zY_91 zm_91 env (38, 32, 0, 0, 0) 39 := zi_iast (by decide +kernel : decode zY_91.2.1 38 = .ok (.iastore, 1))
theorem zf_zm_91_21 (env : List (Nat × Nat)) : zI9 91 zY_91 zm_91 env (39, 13, 0, 0, 0) 40 := zi_dup (by decide +kernel : decode zY_91.2.1 39 = .ok (.dup, 1))
theorem zf_zm_91_22 (env : List (Nat × Nat)) : zI9 91 zY_91 zm_91 env (40, 2, 1, 0, 0) 41 := zi_iconst (by decide +kernel : decode zY_91.2.1 40 = .ok (.iconst 1, 1)) (by decide +kernel)
theorem zf_zm_91_23 (env : List (Nat × Nat)) : zI9 91 zY_91 zm_91 env (41, 2, 30000, 0, 0) 44 := zi_sipush (by decide +kernel : decode zY_91.2.1 41 = .ok (.sipush 30000, 3)) (by decide +kernel)
theorem zf_zm_91_24 (env : List (Nat × Nat)) : zI9 91 zY_91 zm_91 env (44, 32, 0, 0, 0) 45 := zi_iast (by decide +kernel : decode zY_91.2.1 44 = .ok (.iastore, 1))
theorem zf_zm_91_25 (env : List (Nat × Nat)) : zI9 91 zY_91 zm_91 env (45, 13, 0, 0, 0) 46 := zi_dup (by decide +kernel : decode zY_91.2.1 45 = .ok (.dup, 1))
theorem zf_zm_91_26 (env : List (Nat × Nat)) : zI9 91 zY_91 zm_91 env (46, 2, 2, 0, 0) 47 := zi_iconst (by decide +kernel : decode zY_91.2.1 46 = .ok (.iconst 2, 1)) (by decide +kernel)
theorem zf_zm_91_27 (env : List (Nat × Nat)) : zI9 91 zY_91 zm_91 env (47, 2, 0, 0, 0) 48 := zi_iconst (by decide +kernel : decode zY_91.2.1 47 = .ok (.iconst 0, 1)) (by decide +kernel)
theorem zf_zm_91_28 (env : List (Nat × Nat)) : zI9 91 zY_91 zm_91 env (48, 32, 0, 0, 0) 49 := zi_iast (by decide +kernel : decode zY_91.2.1 48 = .ok (.iastore, 1))
theorem zf_zm_91_29 (env : List (Nat × Nat)) : zI9 91 zY_91 zm_91 env (49, 13, 0, 0, 0) 50 := zi_dup (by decide +kernel : decode zY_91.2.1 49 = .ok (.dup, 1))
theorem zf_zm_91_30 (env : List (Nat × Nat)) : zI9 91 zY_91 zm_91 env (50, 2, 3, 0, 0) 51 := zi_iconst (by decide +kernel : decode zY_91.2.1 50 = .ok (.iconst 3, 1)) (by decide +kernel)
theorem zf_zm_91_31 (env : List (Nat × Nat)) : zI9 91 zY_91 zm_91 env (51, 2, 0, 0, 0) 52 := zi_iconst (by decide +kernel : decode zY_91.2.1 51 = .ok (.iconst 0, 1)) (by decide +kernel)
theorem zf_zm_91_32 (env : List (Nat × Nat)) : zI9 91 zY_91 zm_91 env (52, 32, 0, 0, 0) 53 := zi_iast (by decide +kernel : decode zY_91.2.1 52 = .ok (.iastore, 1))
theorem zf_zm_91_33 (env : List (Nat × Nat)) : zI9 91 zY_91 zm_91 env (53, 13, 0, 0, 0) 54 := zi_dup (by decide +kernel : decode zY_91.2.1 53 = .ok (.dup, 1))
theorem zf_zm_91_34 (env : List (Nat × Nat)) : zI9 91 zY_91 zm_91 env (54, 2, 4, 0, 0) 55 := zi_iconst (by decide +kernel : decode zY_91.2.1 54 = .ok (.iconst 4, 1)) (by decide +kernel)
theorem zf_zm_91_35 (env : List (Nat × Nat)) : zI9 91 zY_91 zm_91 env (55, 2, 65536, 0, 0) 57 := zi_ldc (v := 65536) (by decide +kernel : decode zY_91.2.1 55 = .ok (.ldc 24, 2)) (by decide +kernel) (zw_T zwd_452)
theorem zf_zm_91_36 (env : List (Nat × Nat)) : zI9 91 zY_91 zm_91 env (57, 32, 0, 0, 0) 58 := zi_iast (by decide +kernel : decode zY_91.2.1 57 = .ok (.iastore, 1))
theorem zf_zm_91_37 (env : List (Nat × Nat)) : zI9 91 zY_91 zm_91 env (58, 13, 0, 0, 0) 59 := zi_dup (by decide +kernel : decode zY_91.2.1 58 = .ok (.dup, 1))
theorem zf_zm_91_38 (env : List (Nat × Nat)) : zI9 91 zY_91 zm_91 env (59, 2, 5, 0, 0) 60 := zi_iconst (by decide +kernel : decode zY_91.2.1 59 = .ok (.iconst 5, 1)) (by decide +kernel)
theorem zf_zm_91_39 (env : List (Nat × Nat)) : zI9 91 zY_91 zm_91 env (60, 2, 16384, 0, 0) 63 := zi_sipush (by decide +kernel : decode zY_91.2.1 60 = .ok (.sipush 16384, 3)) (by decide +kernel)
theorem zf_zm_91_40 (env : List (Nat × Nat)) : zI9 91 zY_91 zm_91 env (63, 32, 0, 0, 0) 64 := zi_iast (by decide +kernel : decode zY_91.2.1 63 = .ok (.iastore, 1))
theorem zf_zm_91_41 (env : List (Nat × Nat)) : zI9 91 zY_91 zm_91 env (64, 13, 0, 0, 0) 65 := zi_dup (by decide +kernel : decode zY_91.2.1 64 = .ok (.dup, 1))
theorem zf_zm_91_42 (env : List (Nat × Nat)) : zI9 91 zY_91 zm_91 env (65, 2, 6, 0, 0) 67 := zi_bipush (by decide +kernel : decode zY_91.2.1 65 = .ok (.bipush 6, 2)) (by decide +kernel)
theorem zf_zm_91_43 (env : List (Nat × Nat)) : zI9 91 zY_91 zm_91 env (67, 2, 16384, 0, 0) 70 := zi_sipush (by decide +kernel : decode zY_91.2.1 67 = .ok (.sipush 16384, 3)) (by decide +kernel)
theorem zf_zm_91_44 (env : List (Nat × Nat)) : zI9 91 zY_91 zm_91 env (70, 32, 0, 0, 0) 71 := zi_iast (by decide +kernel : decode zY_91.2.1 70 = .ok (.iastore, 1))
theorem zf_zm_91_45 (env : List (Nat × Nat)) : zI9 91 zY_91 zm_91 env (71, 13, 0, 0, 0) 72 := zi_dup (by decide +kernel : decode zY_91.2.1 71 = .ok (.dup, 1))
theorem zf_zm_91_46 (env : List (Nat × Nat)) : zI9 91 zY_91 zm_91 env (72, 2, 7, 0, 0) 74 := zi_bipush (by decide +kernel : decode zY_91.2.1 72 = .ok (.bipush 7, 2)) (by decide +kernel)
theorem zf_zm_91_47 (env : List (Nat × Nat)) : zI9 91 zY_91 zm_91 env (74, 2, 16384, 0, 0) 77 := zi_sipush (by decide +kernel : decode zY_91.2.1 74 = .ok (.sipush 16384, 3)) (by decide +kernel)
theorem zf_zm_91_48 (env : List (Nat × Nat)) : zI9 91 zY_91 zm_91 env (77, 32, 0, 0, 0) 78 := zi_iast (by decide +kernel : decode zY_91.2.1 77 = .ok (.iastore, 1))
theorem zf_zm_91_49 (env : List (Nat × Nat)) : zI9 91 zY_91 zm_91 env (78, 13, 0, 0, 0) 79 := zi_dup (by decide +kernel : decode zY_91.2.1 78 = .ok (.dup, 1))
theorem zf_zm_91_50 (env : List (Nat × Nat)) : zI9 91 zY_91 zm_91 env (79, 2, 8, 0, 0) 81 := zi_bipush (by decide +kernel : decode zY_91.2.1 79 = .ok (.bipush 8, 2)) (by decide +kernel)
theorem zf_zm_91_51 (env : List (Nat × Nat)) : zI9 91 zY_91 zm_91 env (81, 2, 16, 0, 0) 83 := zi_bipush (by decide +kernel : decode zY_91.2.1 81 = .ok (.bipush 16, 2)) (by decide +kernel)
theorem zf_zm_91_52 (env : List (Nat × Nat)) : zI9 91 zY_91 zm_91 env (83, 32, 0, 0, 0) 84 := zi_iast (by decide +kernel : decode zY_91.2.1 83 = .ok (.iastore, 1))
theorem zf_zm_91_53 (env : List (Nat × Nat)) : zI9 91 zY_91 zm_91 env (84, 13, 0, 0, 0) 85 := zi_dup (by decide +kernel : decode zY_91.2.1 84 = .ok (.dup, 1))
theorem zf_zm_91_54 (env : List (Nat × Nat)) : zI9 91 zY_91 zm_91 env (85, 2, 9, 0, 0) 87 := zi_bipush (by decide +kernel : decode zY_91.2.1 85 = .ok (.bipush 9, 2)) (by decide +kernel)
theorem zf_zm_91_55 (env : List (Nat × Nat)) : zI9 91 zY_91 zm_91 env (87, 2, 8, 0, 0) 89 := zi_bipush (by decide +kernel : decode zY_91.2.1 87 = .ok (.bipush 8, 2)) (by decide +kernel)
theorem zf_zm_91_56 (env : List (Nat × Nat)) : zI9 91 zY_91 zm_91 env (89, 32, 0, 0, 0) 90 := zi_iast (by decide +kernel : decode zY_91.2.1 89 = .ok (.iastore, 1))
theorem zf_zm_91_57 (env : List (Nat × Nat)) : zI9 91 zY_91 zm_91 env (90, 65, 4, 0, 0) 92 := zi_astore (by decide +kernel : decode zY_91.2.1 90 = .ok (.astore 4, 2)) (by decide)
theorem zf_zm_91_58 (env : List (Nat × Nat)) : zI9 91 zY_91 zm_91 env (92, 17, 2, 0, 20) 95 := zi_new (i := 25) (N := 20) (C := "TransportPair$Book") (T := zF_2) (ds := [2, 0, 0, 0, 0, 0, 0, 0, 0, 0, 0, 0, 0, 0, 0, 0, 2, 0, 2, 0]) (by decide +kernel : decode zY_91.2.1 92 = .ok (.new 25, 3)) rfl zuw_2 zFt_2 (zw_T zwd_453) (zw_T zwd_454) (zw_T zwd_192) rfl rfl rfl zFd_2
theorem zf_zm_91_59 (env : List (Nat × Nat)) : zI9 91 zY_91 zm_91 env (95, 13, 0, 0, 0) 96 := zi_dup (by decide +kernel : decode zY_91.2.1 95 = .ok (.dup, 1))
theorem zf_zm_91_60 (env : List (Nat × Nat)) : zC9 91 zm_91 env (96, 66, 75, 65, 1) := zi_call (by decide +kernel) (zr_IN (i := 27) (n := 0) zX_ok rfl (zgood_75) (by decide +kernel) (zw_T zwd_192) (zw_N zwd_455) rfl (zw_T zwd_456) rfl ⟨by decide +kernel, by decide +kernel, by decide +kernel⟩ rfl (by decide +kernel : decode (zYf 91).2.1 96 = .ok (.invokespecial 27, 3)))
theorem zf_zm_91_61 (env : List (Nat × Nat)) : zI9 91 zY_91 zm_91 env (99, 65, 5, 0, 0) 101 := zi_astore (by decide +kernel : decode zY_91.2.1 99 = .ok (.astore 5, 2)) (by decide)
theorem zf_zm_91_62 (env : List (Nat × Nat)) : zI9 91 zY_91 zm_91 env (101, 17, 12, 0, 21) 104 := zi_new (i := 28) (N := 21) (C := "TransportPair$Streams") (T := zF_12) (ds := [0, 2, 2, 2, 2, 2, 2, 2, 2, 2, 2, 2, 1, 1, 1, 0, 0, 0, 0, 2, 2]) (by decide +kernel : decode zY_91.2.1 101 = .ok (.new 28, 3)) rfl zuw_12 zFt_12 (zw_T zwd_457) (zw_T zwd_458) (zw_T zwd_149) rfl rfl rfl zFd_12
theorem zf_zm_91_63 (env : List (Nat × Nat)) : zI9 91 zY_91 zm_91 env (104, 13, 0, 0, 0) 105 := zi_dup (by decide +kernel : decode zY_91.2.1 104 = .ok (.dup, 1))
theorem zf_zm_91_64 (env : List (Nat × Nat)) : zI9 91 zY_91 zm_91 env (105, 63, 1, 0, 0) 106 := zi_iload_n (by decide +kernel : decode zY_91.2.1 105 = .ok (.iload_n 1, 1)) rfl
theorem zf_zm_91_65 (env : List (Nat × Nat)) : zI9 91 zY_91 zm_91 env (106, 0, 4, 0, 0) 108 := zi_aload (by decide +kernel : decode zY_91.2.1 106 = .ok (.aload 4, 2))
theorem zf_zm_91_66 (env : List (Nat × Nat)) : zC9 91 zm_91 env (108, 66, 97, 195, 1) := zi_call (by decide +kernel) (zr_I (i := 30) (n := 2) zX_ok rfl (zgood_97) (by decide +kernel) (zw_T zwd_149) (zw_T zwd_459) rfl (zw_T zwd_460) rfl ⟨by decide +kernel, by decide +kernel, by decide +kernel⟩ rfl (by decide +kernel : decode (zYf 91).2.1 108 = .ok (.invokespecial 30, 3)))
theorem zf_zm_91_67 (env : List (Nat × Nat)) : zI9 91 zY_91 zm_91 env (111, 65, 6, 0, 0) 113 := zi_astore (by decide +kernel : decode zY_91.2.1 111 = .ok (.astore 6, 2)) (by decide)
theorem zf_zm_91_68 (env : List (Nat × Nat)) : zI9 91 zY_91 zm_91 env (113, 17, 3, 0, 22) 116 := zi_new (i := 33) (N := 22) (C := "TransportPair$Greeting") (T := zF_3) (ds := [2, 2, 2, 0, 0, 0, 0, 0, 0, 2, 2, 2, 2, 2, 2, 0, 2, 0, 2, 0, 2, 2]) (by decide +kernel : decode zY_91.2.1 113 = .ok (.new 33, 3)) rfl zuw_3 zFt_3 (zw_T zwd_461) (zw_T zwd_462) (zw_T zwd_142) rfl rfl rfl zFd_3
theorem zf_zm_91_69 (env : List (Nat × Nat)) : zI9 91 zY_91 zm_91 env (116, 13, 0, 0, 0) 117 := zi_dup (by decide +kernel : decode zY_91.2.1 116 = .ok (.dup, 1))
theorem zf_zm_91_70 (env : List (Nat × Nat)) : zI9 91 zY_91 zm_91 env (117, 0, 2, 0, 0) 118 := zi_aload_n (by decide +kernel : decode zY_91.2.1 117 = .ok (.aload_n 2, 1)) rfl
theorem zf_zm_91_71 (env : List (Nat × Nat)) : zC9 91 zm_91 env (118, 66, 82, 130, 1) := zi_call (by decide +kernel) (zr_I (i := 35) (n := 1) zX_ok rfl (zgood_82) (by decide +kernel) (zw_T zwd_142) (zw_T zwd_463) rfl (zw_T zwd_464) rfl ⟨by decide +kernel, by decide +kernel, by decide +kernel⟩ rfl (by decide +kernel : decode (zYf 91).2.1 118 = .ok (.invokespecial 35, 3)))
theorem zf_zm_91_72 (env : List (Nat × Nat)) : zI9 91 zY_91 zm_91 env (121, 65, 7, 0, 0) 123 := zi_astore (by decide +kernel : decode zY_91.2.1 121 = .ok (.astore 7, 2)) (by decide)
theorem zf_zm_91_73 (env : List (Nat × Nat)) : zI9 91 zY_91 zm_91 env (123, 0, 0, 0, 0) 124 := zi_aload_n (by decide +kernel : decode zY_91.2.1 123 = .ok (.aload_n 0, 1)) rfl
theorem zf_zm_91_74 (env : List (Nat × Nat)) : zI9 91 zY_91 zm_91 env (124, 63, 1, 0, 0) 125 := zi_iload_n (by decide +kernel : decode zY_91.2.1 124 = .ok (.iload_n 1, 1)) rfl
theorem zf_zm_91_75 (env : List (Nat × Nat)) : zI9 91 zY_91 zm_91 env (125, 4, 10, 0, 0) 128 := zi_putfF (i := 38) (N := 22) (C := "TransportPair$Side") (ref := "TransportPair$Side") (T := zF_10) (by decide +kernel : decode zY_91.2.1 125 = .ok (.putfield 38, 3)) rfl zuw_10 zFt_10 zFn_10 (by decide) (zw_T zwd_465) rfl rfl rfl rfl (ty := .int) (by decide +kernel) (rfl)
theorem zf_zm_91_76 (env : List (Nat × Nat)) : zI9 91 zY_91 zm_91 env (128, 0, 0, 0, 0) 129 := zi_aload_n (by decide +kernel : decode zY_91.2.1 128 = .ok (.aload_n 0, 1)) rfl
theorem zf_zm_91_77 (env : List (Nat × Nat)) : zI9 91 zY_91 zm_91 env (129, 0, 2, 0, 0) 130 := zi_aload_n (by decide +kernel : decode zY_91.2.1 129 = .ok (.aload_n 2, 1)) rfl
theorem zf_zm_91_78 (env : List (Nat × Nat)) : zI9 91 zY_91 zm_91 env (130, 4, 10, 1, 2) 133 := zi_putfF (i := 42) (N := 22) (C := "TransportPair$Side") (ref := "TransportPair$Side") (T := zF_10) (by decide +kernel : decode zY_91.2.1 130 = .ok (.putfield 42, 3)) rfl zuw_10 zFt_10 zFn_10 (by decide) (zw_T zwd_466) rfl rfl rfl rfl (ty := .object "TransportPair$Seals") (by decide +kernel) (Or.inl ⟨_, rfl⟩)
theorem zf_zm_91_79 (env : List (Nat × Nat)) : zI9 91 zY_91 zm_91 env (133, 0, 0, 0, 0) 134 := zi_aload_n (by decide +kernel : decode zY_91.2.1 133 = .ok (.aload_n 0, 1)) rfl
theorem zf_zm_91_80 (env : List (Nat × Nat)) : zI9 91 zY_91 zm_91 env (134, 0, 3, 0, 0) 135 := zi_aload_n (by decide +kernel : decode zY_91.2.1 134 = .ok (.aload_n 3, 1)) rfl
theorem zf_zm_91_81 (env : List (Nat × Nat)) : zI9 91 zY_91 zm_91 env (135, 4, 10, 2, 2) 138 := zi_putfF (i := 46) (N := 22) (C := "TransportPair$Side") (ref := "TransportPair$Side") (T := zF_10) (by decide +kernel : decode zY_91.2.1 135 = .ok (.putfield 46, 3)) rfl zuw_10 zFt_10 zFn_10 (by decide) (zw_T zwd_467) rfl rfl rfl rfl (ty := .object "TransportPair$Reader") (by decide +kernel) (Or.inl ⟨_, rfl⟩)
theorem zf_zm_91_82 (env : List (Nat × Nat)) : zI9 91 zY_91 zm_91 env (138, 0, 0, 0, 0) 139 := zi_aload_n (by decide +kernel : decode zY_91.2.1 138 = .ok (.aload_n 0, 1)) rfl
theorem zf_zm_91_83 (env : List (Nat × Nat)) : zI9 91 zY_91 zm_91 env (139, 0, 4, 0, 0) 141 := zi_aload (by decide +kernel : decode zY_91.2.1 139 = .ok (.aload 4, 2))
theorem zf_zm_91_84 (env : List (Nat × Nat)) : zI9 91 zY_91 zm_91 env (141, 4, 10, 4, 2) 144 := zi_putfF (i := 49) (N := 22) (C := "TransportPair$Side") (ref := "TransportPair$Side") (T := zF_10) (by decide +kernel : decode zY_91.2.1 141 = .ok (.putfield 49, 3)) rfl zuw_10 zFt_10 zFn_10 (by decide) (zw_T zwd_468) rfl rfl rfl rfl (ty := .array .int) (by decide +kernel) (Or.inr ⟨_, rfl⟩)
theorem zf_zm_91_85 (env : List (Nat × Nat)) : zI9 91 zY_91 zm_91 env (144, 0, 0, 0, 0) 145 := zi_aload_n (by decide +kernel : decode zY_91.2.1 144 = .ok (.aload_n 0, 1)) rfl
theorem zf_zm_91_86 (env : List (Nat × Nat)) : zI9 91 zY_91 zm_91 env (145, 0, 5, 0, 0) 147 := zi_aload (by decide +kernel : decode zY_91.2.1 145 = .ok (.aload 5, 2))
theorem zf_zm_91_87 (env : List (Nat × Nat)) : zI9 91 zY_91 zm_91 env (147, 4, 10, 5, 2) 150 := zi_putfF (i := 53) (N := 22) (C := "TransportPair$Side") (ref := "TransportPair$Side") (T := zF_10) (by decide +kernel : decode zY_91.2.1 147 = .ok (.putfield 53, 3)) rfl zuw_10 zFt_10 zFn_10 (by decide) (zw_T zwd_469) rfl rfl rfl rfl (ty := .object "TransportPair$Book") (by decide +kernel) (Or.inl ⟨_, rfl⟩)
theorem zf_zm_91_88 (env : List (Nat × Nat)) : zI9 91 zY_91 zm_91 env (150, 0, 0, 0, 0) 151 := zi_aload_n (by decide +kernel : decode zY_91.2.1 150 = .ok (.aload_n 0, 1)) rfl
theorem zf_zm_91_89 (env : List (Nat × Nat)) : zI9 91 zY_91 zm_91 env (151, 0, 6, 0, 0) 153 := zi_aload (by decide +kernel : decode zY_91.2.1 151 = .ok (.aload 6, 2))
theorem zf_zm_91_90 (env : List (Nat × Nat)) : zI9 91 zY_91 zm_91 env (153, 4, 10, 6, 2) 156 := zi_putfF (i := 57) (N := 22) (C := "TransportPair$Side") (ref := "TransportPair$Side") (T := zF_10) (by decide +kernel : decode zY_91.2.1 153 = .ok (.putfield 57, 3)) rfl zuw_10 zFt_10 zFn_10 (by decide) (zw_T zwd_470) rfl rfl rfl rfl (ty := .object "TransportPair$Streams") (by decide +kernel) (Or.inl ⟨_, rfl⟩)
theorem zf_zm_91_91 (env : List (Nat × Nat)) : zI9 91 zY_91 zm_91 env (156, 0, 0, 0, 0) 157 := zi_aload_n (by decide +kernel : decode zY_91.2.1 156 = .ok (.aload_n 0, 1)) rfl
theorem zf_zm_91_92 (env : List (Nat × Nat)) : zI9 91 zY_91 zm_91 env (157, 0, 7, 0, 0) 159 := zi_aload (by decide +kernel : decode zY_91.2.1 157 = .ok (.aload 7, 2))
theorem zf_zm_91_93 (env : List (Nat × Nat)) : zI9 91 zY_91 zm_91 env (159, 4, 10, 7, 2) 162 := zi_putfF (i := 61) (N := 22) (C := "TransportPair$Side") (ref := "TransportPair$Side") (T := zF_10) (by decide +kernel : decode zY_91.2.1 159 = .ok (.putfield 61, 3)) rfl zuw_10 zFt_10 zFn_10 (by decide) (zw_T zwd_471) rfl rfl rfl rfl (ty := .object "TransportPair$Greeting") (by decide +kernel) (Or.inl ⟨_, rfl⟩)
theorem zf_zm_91_94 (env : List (Nat × Nat)) : zI9 91 zY_91 zm_91 env (162, 0, 0, 0, 0) 163 := zi_aload_n (by decide +kernel : decode zY_91.2.1 162 = .ok (.aload_n 0, 1)) rfl
theorem zf_zm_91_95 (env : List (Nat × Nat)) : zI9 91 zY_91 zm_91 env (163, 17, 5, 0, 22) 166 := zi_new (i := 65) (N := 22) (C := "TransportPair$Outbox") (T := zF_5) (ds := [2, 2, 2, 2, 2, 2, 0, 0, 0, 0, 1, 0, 0, 0, 2, 2, 0, 2, 0, 0, 2, 0]) (by decide +kernel : decode zY_91.2.1 163 = .ok (.new 65, 3)) rfl zuw_5 zFt_5 (zw_T zwd_472) (zw_T zwd_473) (zw_T zwd_474) rfl rfl rfl zFd_5
theorem zf_zm_91_96 (env : List (Nat × Nat)) : zI9 91 zY_91 zm_91 env (166, 13, 0, 0, 0) 167 := zi_dup (by decide +kernel : decode zY_91.2.1 166 = .ok (.dup, 1))
theorem zf_zm_91_97 (env : List (Nat × Nat)) : zI9 91 zY_91 zm_91 env (167, 0, 2, 0, 0) 168 := zi_aload_n (by decide +kernel : decode zY_91.2.1 167 = .ok (.aload_n 2, 1)) rfl
theorem zf_zm_91_98 (env : List (Nat × Nat)) : zI9 91 zY_91 zm_91 env (168, 0, 5, 0, 0) 170 := zi_aload (by decide +kernel : decode zY_91.2.1 168 = .ok (.aload 5, 2))
theorem zf_zm_91_99 (env : List (Nat × Nat)) : zI9 91 zY_91 zm_91 env (170, 0, 6, 0, 0) 172 := zi_aload (by decide +kernel : decode zY_91.2.1 170 = .ok (.aload 6, 2))
theorem zf_zm_91_100 (env : List (Nat × Nat)) : zI9 91 zY_91 zm_91 env (172, 0, 7, 0, 0) 174 := zi_aload (by decide +kernel : decode zY_91.2.1 172 = .ok (.aload 7, 2))
theorem zf_zm_91_101 (env : List (Nat × Nat)) : zC9 91 zm_91 env (174, 66, 85, 325, 1) := zi_call (by decide +kernel) (zr_I (i := 67) (n := 4) zX_ok rfl (zgood_85) (by decide +kernel) (zw_T zwd_474) (zw_T zwd_475) rfl (zw_T zwd_476) rfl ⟨by decide +kernel, by decide +kernel, by decide +kernel⟩ rfl (by decide +kernel : decode (zYf 91).2.1 174 = .ok (.invokespecial 67, 3)))
theorem zf_zm_91_102 (env : List (Nat × Nat)) : zI9 91 zY_91 zm_91 env (177, 4, 10, 8, 2) 180 := zi_putfF (i := 70) (N := 22) (C := "TransportPair$Side") (ref := "TransportPair$Side") (T := zF_10) (by decide +kernel : decode zY_91.2.1 177 = .ok (.putfield 70, 3)) rfl zuw_10 zFt_10 zFn_10 (by decide) (zw_T zwd_477) rfl rfl rfl rfl (ty := .object "TransportPair$Outbox") (by decide +kernel) (Or.inl ⟨_, rfl⟩)
theorem zf_zm_91_103 (env : List (Nat × Nat)) : zR9 91 env (180, 21, 0, 0, 0) := zi_vret (by decide +kernel : decode (zYf 91).2.1 180 = .ok (.return_, 1)) rfl
set_option maxRecDepth 100000 in
theorem zc_zm_91 (env : List (Nat × Nat)) : zcode zX (z_QF zEX zcl zft) (z_zm zEX zX zWL zcl zft zYf) zYf zW zET zcl zft (zGv env) 91 zm_91 zm_91.1 := ⟨Or.inl ⟨1, zf_zm_91_0 env, zpc_c⟩,
  Or.inl ⟨4, zf_zm_91_1 env, zpc_c⟩,
  Or.inl ⟨5, zf_zm_91_2 env, zpc_c⟩,
  Or.inl ⟨8, zf_zm_91_3 env, zpc_c⟩,
  Or.inl ⟨9, zf_zm_91_4 env, zpc_c⟩,
  Or.inr (Or.inr (Or.inl ⟨zf_zm_91_5 env, zpc_c⟩)),
  Or.inl ⟨15, zf_zm_91_6 env, zpc_c⟩,
  Or.inl ⟨16, zf_zm_91_7 env, zpc_c⟩,
  Or.inl ⟨18, zf_zm_91_8 env, zpc_c⟩,
  Or.inl ⟨20, zf_zm_91_9 env, zpc_c⟩,
  Or.inl ⟨23, zf_zm_91_10 env, zpc_c⟩,
  Or.inl ⟨24, zf_zm_91_11 env, zpc_c⟩,
  Or.inl ⟨26, zf_zm_91_12 env, zpc_c⟩,
  Or.inl ⟨28, zf_zm_91_13 env, zpc_c⟩,
  Or.inl ⟨31, zf_zm_91_14 env, zpc_c⟩,
  Or.inl ⟨33, zf_zm_91_15 env, zpc_c⟩,
  Or.inl ⟨35, zf_zm_91_16 env, zpc_c⟩,
  Or.inl ⟨36, zf_zm_91_17 env, zpc_c⟩,
  Or.inl ⟨37, zf_zm_91_18 env, zpc_c⟩,
  Or.inl ⟨38, zf_zm_91_19 env, zpc_c⟩,
  Or.inl ⟨39, zf_zm_91_20 env, zpc_c⟩,
  Or.inl ⟨40, zf_zm_91_21 env, zpc_c⟩,
  Or.inl ⟨41, zf_zm_91_22 env, zpc_c⟩,
  Or.inl ⟨44, zf_zm_91_23 env, zpc_c⟩,
  Or.inl ⟨45, zf_zm_91_24 env, zpc_c⟩,
  Or.inl ⟨46, zf_zm_91_25 env, zpc_c⟩,
  Or.inl ⟨47, zf_zm_91_26 env, zpc_c⟩,
  Or.inl ⟨48, zf_zm_91_27 env, zpc_c⟩,
  Or.inl ⟨49, zf_zm_91_28 env, zpc_c⟩,
  Or.inl ⟨50, zf_zm_91_29 env, zpc_c⟩,
  Or.inl ⟨51, zf_zm_91_30 env, zpc_c⟩,
  Or.inl ⟨52, zf_zm_91_31 env, zpc_c⟩,
  Or.inl ⟨53, zf_zm_91_32 env, zpc_c⟩,
  Or.inl ⟨54, zf_zm_91_33 env, zpc_c⟩,
  Or.inl ⟨55, zf_zm_91_34 env, zpc_c⟩,
  Or.inl ⟨57, zf_zm_91_35 env, zpc_c⟩,
  Or.inl ⟨58, zf_zm_91_36 env, zpc_c⟩,
  Or.inl ⟨59, zf_zm_91_37 env, zpc_c⟩,
  Or.inl ⟨60, zf_zm_91_38 env, zpc_c⟩,
  Or.inl ⟨63, zf_zm_91_39 env, zpc_c⟩,
  Or.inl ⟨64, zf_zm_91_40 env, zpc_c⟩,
  Or.inl ⟨65, zf_zm_91_41 env, zpc_c⟩,
  Or.inl ⟨67, zf_zm_91_42 env, zpc_c⟩,
  Or.inl ⟨70, zf_zm_91_43 env, zpc_c⟩,
  Or.inl ⟨71, zf_zm_91_44 env, zpc_c⟩,
  Or.inl ⟨72, zf_zm_91_45 env, zpc_c⟩,
  Or.inl ⟨74, zf_zm_91_46 env, zpc_c⟩,
  Or.inl ⟨77, zf_zm_91_47 env, zpc_c⟩,
  Or.inl ⟨78, zf_zm_91_48 env, zpc_c⟩,
  Or.inl ⟨79, zf_zm_91_49 env, zpc_c⟩,
  Or.inl ⟨81, zf_zm_91_50 env, zpc_c⟩,
  Or.inl ⟨83, zf_zm_91_51 env, zpc_c⟩,
  Or.inl ⟨84, zf_zm_91_52 env, zpc_c⟩,
  Or.inl ⟨85, zf_zm_91_53 env, zpc_c⟩,
  Or.inl ⟨87, zf_zm_91_54 env, zpc_c⟩,
  Or.inl ⟨89, zf_zm_91_55 env, zpc_c⟩,
  Or.inl ⟨90, zf_zm_91_56 env, zpc_c⟩,
  Or.inl ⟨92, zf_zm_91_57 env, zpc_c⟩,
  Or.inl ⟨95, zf_zm_91_58 env, zpc_c⟩,
  Or.inl ⟨96, zf_zm_91_59 env, zpc_c⟩,
  Or.inr (Or.inr (Or.inl ⟨zf_zm_91_60 env, zpc_c⟩)),
  Or.inl ⟨101, zf_zm_91_61 env, zpc_c⟩,
  Or.inl ⟨104, zf_zm_91_62 env, zpc_c⟩,
  Or.inl ⟨105, zf_zm_91_63 env, zpc_c⟩,
  Or.inl ⟨106, zf_zm_91_64 env, zpc_c⟩,
  Or.inl ⟨108, zf_zm_91_65 env, zpc_c⟩,
  Or.inr (Or.inr (Or.inl ⟨zf_zm_91_66 env, zpc_c⟩)),
  Or.inl ⟨113, zf_zm_91_67 env, zpc_c⟩,
  Or.inl ⟨116, zf_zm_91_68 env, zpc_c⟩,
  Or.inl ⟨117, zf_zm_91_69 env, zpc_c⟩,
  Or.inl ⟨118, zf_zm_91_70 env, zpc_c⟩,
  Or.inr (Or.inr (Or.inl ⟨zf_zm_91_71 env, zpc_c⟩)),
  Or.inl ⟨123, zf_zm_91_72 env, zpc_c⟩,
  Or.inl ⟨124, zf_zm_91_73 env, zpc_c⟩,
  Or.inl ⟨125, zf_zm_91_74 env, zpc_c⟩,
  Or.inl ⟨128, zf_zm_91_75 env, zpc_c⟩,
  Or.inl ⟨129, zf_zm_91_76 env, zpc_c⟩,
  Or.inl ⟨130, zf_zm_91_77 env, zpc_c⟩,
  Or.inl ⟨133, zf_zm_91_78 env, zpc_c⟩,
  Or.inl ⟨134, zf_zm_91_79 env, zpc_c⟩,
  Or.inl ⟨135, zf_zm_91_80 env, zpc_c⟩,
  Or.inl ⟨138, zf_zm_91_81 env, zpc_c⟩,
  Or.inl ⟨139, zf_zm_91_82 env, zpc_c⟩,
  Or.inl ⟨141, zf_zm_91_83 env, zpc_c⟩,
  Or.inl ⟨144, zf_zm_91_84 env, zpc_c⟩,
  Or.inl ⟨145, zf_zm_91_85 env, zpc_c⟩,
  Or.inl ⟨147, zf_zm_91_86 env, zpc_c⟩,
  Or.inl ⟨150, zf_zm_91_87 env, zpc_c⟩,
  Or.inl ⟨151, zf_zm_91_88 env, zpc_c⟩,
  Or.inl ⟨153, zf_zm_91_89 env, zpc_c⟩,
  Or.inl ⟨156, zf_zm_91_90 env, zpc_c⟩,
  Or.inl ⟨157, zf_zm_91_91 env, zpc_c⟩,
  Or.inl ⟨159, zf_zm_91_92 env, zpc_c⟩,
  Or.inl ⟨162, zf_zm_91_93 env, zpc_c⟩,
  Or.inl ⟨163, zf_zm_91_94 env, zpc_c⟩,
  Or.inl ⟨166, zf_zm_91_95 env, zpc_c⟩,
  Or.inl ⟨167, zf_zm_91_96 env, zpc_c⟩,
  Or.inl ⟨168, zf_zm_91_97 env, zpc_c⟩,
  Or.inl ⟨170, zf_zm_91_98 env, zpc_c⟩,
  Or.inl ⟨172, zf_zm_91_99 env, zpc_c⟩,
  Or.inl ⟨174, zf_zm_91_100 env, zpc_c⟩,
  Or.inr (Or.inr (Or.inl ⟨zf_zm_91_101 env, zpc_c⟩)),
  Or.inl ⟨180, zf_zm_91_102 env, zpc_c⟩,
  Or.inr (Or.inl (zf_zm_91_103 env)), trivial⟩
