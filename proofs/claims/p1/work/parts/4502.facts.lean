/-! FACTS (by program) -/
theorem zf_zm_51_0 (env : List (Nat × Nat)) : zI9 51 zY_51 zm_51 env (0, 0, 0, 0, 0) 1 := zi_aload_n (by decide +kernel : decode zY_51.2.1 0 = .ok (.aload_n 0, 1)) rfl
theorem zf_zm_51_1 (env : List (Nat × Nat)) : zI9 51 zY_51 zm_51 env (1, 1, 1, 7, 2) 4 := zi_getf (i := 37) (N := 23) (C := "TransportPairModel") (ref := "TransportPairModel") (T := zF_1) (by decide +kernel : decode zY_51.2.1 1 = .ok (.getfield 37, 3)) rfl zuw_1 (by decide) (zw_T zwd_231) rfl
theorem zf_zm_51_2 (env : List (Nat × Nat)) : zI9 51 zY_51 zm_51 env (4, 2, 0, 0, 0) 5 := zi_iconst (by decide +kernel : decode zY_51.2.1 4 = .ok (.iconst 0, 1)) (by decide +kernel)
theorem zf_zm_51_3 (env : List (Nat × Nat)) : zI9 51 zY_51 zm_51 env (5, 19, 0, 0, 0) 6 := zi_aald zft_all (by decide +kernel : decode zY_51.2.1 5 = .ok (.aaload, 1))
theorem zf_zm_51_4 (env : List (Nat × Nat)) : zI9 51 zY_51 zm_51 env (6, 1, 18, 8, 0) 9 := zi_getfN (i := 110) (N := 53) (C := "TransportPairModel$Side") (ref := "TransportPairModel$Side") (T := zF_18) (by decide +kernel : decode zY_51.2.1 6 = .ok (.getfield 110, 3)) rfl zuw_18 (by decide) (zw_N zwd_264) rfl
theorem zf_zm_51_5 (env : List (Nat × Nat)) : zI9 51 zY_51 zm_51 env (9, 6, 8, 0, 0) 12 := zi_if_ne (off := 7) (t := 16) (by decide +kernel : decode zY_51.2.1 9 = .ok (.ifCond .ne 7, 3)) (by decide) (by decide +kernel)
theorem zf_zm_51_6 (env : List (Nat × Nat)) : zI9 51 zY_51 zm_51 env (12, 2, 1, 0, 0) 13 := zi_iconst (by decide +kernel : decode zY_51.2.1 12 = .ok (.iconst 1, 1)) (by decide +kernel)
theorem zf_zm_51_7 (env : List (Nat × Nat)) : zI9 51 zY_51 zm_51 env (13, 7, 9, 0, 0) 16 := zi_goto (off := 4) (t := 17) (by decide +kernel : decode zY_51.2.1 13 = .ok (.goto 4, 3)) (by decide) (by decide +kernel)
theorem zf_zm_51_8 (env : List (Nat × Nat)) : zI9 51 zY_51 zm_51 env (16, 99, 0, 0, 0) 17 := zi_none
theorem zf_zm_51_9 (env : List (Nat × Nat)) : zI9 51 zY_51 zm_51 env (17, 10, 1, 0, 0) 18 := zi_istore_n (by decide +kernel : decode zY_51.2.1 17 = .ok (.istore_n 1, 1)) rfl (by decide)
theorem zf_zm_51_10 (env : List (Nat × Nat)) : zI9 51 zY_51 zm_51 env (18, 2, 0, 0, 0) 19 := zi_iconst (by decide +kernel : decode zY_51.2.1 18 = .ok (.iconst 0, 1)) (by decide +kernel)
theorem zf_zm_51_11 (env : List (Nat × Nat)) : zI9 51 zY_51 zm_51 env (19, 10, 2, 0, 0) 20 := zi_istore_n (by decide +kernel : decode zY_51.2.1 19 = .ok (.istore_n 2, 1)) rfl (by decide)
theorem zf_zm_51_12 (env : List (Nat × Nat)) : zI9 51 zY_51 zm_51 env (20, 63, 2, 0, 0) 21 := zi_iload_n (by decide +kernel : decode zY_51.2.1 20 = .ok (.iload_n 2, 1)) rfl
theorem zf_zm_51_13 (env : List (Nat × Nat)) : zI9 51 zY_51 zm_51 env (21, 2, 2, 0, 0) 22 := zi_iconst (by decide +kernel : decode zY_51.2.1 21 = .ok (.iconst 2, 1)) (by decide +kernel)
theorem zf_zm_51_14 (env : List (Nat × Nat)) : zI9 51 zY_51 zm_51 env (22, 28, 28, 0, 0) 25 := zi_icmp_ge (off := 43) (t := 65) (by decide +kernel : decode zY_51.2.1 22 = .ok (.if_icmp .ge 43, 3)) (by decide) (by decide +kernel)
theorem zf_zm_51_15 (env : List (Nat × Nat)) : zI9 51 zY_51 zm_51 env (25, 63, 1, 0, 0) 26 := zi_iload_n (by decide +kernel : decode zY_51.2.1 25 = .ok (.iload_n 1, 1)) rfl
theorem zf_zm_51_16 (env : List (Nat × Nat)) : zI9 51 zY_51 zm_51 env (26, 5, 24, 0, 0) 29 := zi_if_eq (off := 31) (t := 57) (by decide +kernel : decode zY_51.2.1 26 = .ok (.ifCond .eq 31, 3)) (by decide) (by decide +kernel)
theorem zf_zm_51_17 (env : List (Nat × Nat)) : zI9 51 zY_51 zm_51 env (29, 0, 0, 0, 0) 30 := zi_aload_n (by decide +kernel : decode zY_51.2.1 29 = .ok (.aload_n 0, 1)) rfl
theorem zf_zm_51_18 (env : List (Nat × Nat)) : zI9 51 zY_51 zm_51 env (30, 1, 1, 7, 2) 33 := zi_getf (i := 37) (N := 23) (C := "TransportPairModel") (ref := "TransportPairModel") (T := zF_1) (by decide +kernel : decode zY_51.2.1 30 = .ok (.getfield 37, 3)) rfl zuw_1 (by decide) (zw_T zwd_231) rfl
theorem zf_zm_51_19 (env : List (Nat × Nat)) : zI9 51 zY_51 zm_51 env (33, 63, 2, 0, 0) 34 := zi_iload_n (by decide +kernel : decode zY_51.2.1 33 = .ok (.iload_n 2, 1)) rfl
theorem zf_zm_51_20 (env : List (Nat × Nat)) : zI9 51 zY_51 zm_51 env (34, 19, 0, 0, 0) 35 := zi_aald zft_all (by decide +kernel : decode zY_51.2.1 34 = .ok (.aaload, 1))
theorem zf_zm_51_21 (env : List (Nat × Nat)) : zI9 51 zY_51 zm_51 env (35, 1, 18, 6, 3) 38 := zi_getfN (i := 122) (N := 53) (C := "TransportPairModel$Side") (ref := "TransportPairModel$Side") (T := zF_18) (by decide +kernel : decode zY_51.2.1 35 = .ok (.getfield 122, 3)) rfl zuw_18 (by decide) (zw_N zwd_265) rfl
theorem zf_zm_51_22 (env : List (Nat × Nat)) : zI9 51 zY_51 zm_51 env (38, 5, 24, 0, 0) 41 := zi_if_eq (off := 19) (t := 57) (by decide +kernel : decode zY_51.2.1 38 = .ok (.ifCond .eq 19, 3)) (by decide) (by decide +kernel)
theorem zf_zm_51_23 (env : List (Nat × Nat)) : zI9 51 zY_51 zm_51 env (41, 99, 0, 0, 0) 57 := zi_none
theorem zf_zm_51_24 (env : List (Nat × Nat)) : zI9 51 zY_51 zm_51 env (57, 2, 0, 0, 0) 58 := zi_iconst (by decide +kernel : decode zY_51.2.1 57 = .ok (.iconst 0, 1)) (by decide +kernel)
theorem zf_zm_51_25 (env : List (Nat × Nat)) : zI9 51 zY_51 zm_51 env (58, 10, 1, 0, 0) 59 := zi_istore_n (by decide +kernel : decode zY_51.2.1 58 = .ok (.istore_n 1, 1)) rfl (by decide)
theorem zf_zm_51_26 (env : List (Nat × Nat)) : zI9 51 zY_51 zm_51 env (59, 35, 2, 1, 0) 62 := zi_iinc (by decide +kernel : decode zY_51.2.1 59 = .ok (.iinc 2 1, 3)) (by decide +kernel) (by decide)
theorem zf_zm_51_27 (env : List (Nat × Nat)) : zI9 51 zY_51 zm_51 env (62, 7, 12, 0, 0) 65 := zi_goto (off := (-42)) (t := 20) (by decide +kernel : decode zY_51.2.1 62 = .ok (.goto (-42), 3)) (by decide) (by decide +kernel)
theorem zf_zm_51_28 (env : List (Nat × Nat)) : zI9 51 zY_51 zm_51 env (65, 0, 0, 0, 0) 66 := zi_aload_n (by decide +kernel : decode zY_51.2.1 65 = .ok (.aload_n 0, 1)) rfl
theorem zf_zm_51_29 (env : List (Nat × Nat)) : zI9 51 zY_51 zm_51 env (66, 63, 1, 0, 0) 67 := zi_iload_n (by decide +kernel : decode zY_51.2.1 66 = .ok (.iload_n 1, 1)) rfl
theorem zf_zm_51_30 (env : List (Nat × Nat)) : zI9 51 zY_51 zm_51 env (67, 6, 33, 0, 0) 70 := zi_if_ne (off := 7) (t := 74) (by decide +kernel : decode zY_51.2.1 67 = .ok (.ifCond .ne 7, 3)) (by decide) (by decide +kernel)
theorem zf_zm_51_31 (env : List (Nat × Nat)) : zI9 51 zY_51 zm_51 env (70, 2, 1, 0, 0) 71 := zi_iconst (by decide +kernel : decode zY_51.2.1 70 = .ok (.iconst 1, 1)) (by decide +kernel)
theorem zf_zm_51_32 (env : List (Nat × Nat)) : zI9 51 zY_51 zm_51 env (71, 7, 34, 0, 0) 74 := zi_goto (off := 4) (t := 75) (by decide +kernel : decode zY_51.2.1 71 = .ok (.goto 4, 3)) (by decide) (by decide +kernel)
theorem zf_zm_51_33 (env : List (Nat × Nat)) : zI9 51 zY_51 zm_51 env (74, 99, 0, 0, 0) 75 := zi_none
theorem zf_zm_51_34 (env : List (Nat × Nat)) : zI9 51 zY_51 zm_51 env (75, 2, 1, 0, 0) 76 := zi_iconst (by decide +kernel : decode zY_51.2.1 75 = .ok (.iconst 1, 1)) (by decide +kernel)
theorem zf_zm_51_35 (env : List (Nat × Nat)) : zC9 51 zm_51 env (76, 66, 44, 195, 3) := zi_call (by decide +kernel) (zr_V (i := 102) (n := 2) (q := ("TransportPairModel", zF_1, 23)) zX_ok rfl (zgood_44) (by decide +kernel) (zw_T zwd_250) (zw_T zwd_259) (zw_T zwd_260) rfl (zw_T (zt_sel (y := ⟨"TransportPairModel","fails","(ZI)Z"⟩) (n := 23) 102 (by decide +kernel))) ⟨by decide +kernel, by decide +kernel, by decide +kernel⟩ rfl (by decide +kernel : decode (zYf 51).2.1 76 = .ok (.invokevirtual 102, 3)))
theorem zf_zm_51_36 (env : List (Nat × Nat)) : zI9 51 zY_51 zm_51 env (79, 5, 38, 0, 0) 82 := zi_if_eq (off := 4) (t := 83) (by decide +kernel : decode zY_51.2.1 79 = .ok (.ifCond .eq 4, 3)) (by decide) (by decide +kernel)
theorem zf_zm_51_37 (env : List (Nat × Nat)) : zR9 51 env (82, 21, 0, 0, 0) := zi_vret (by decide +kernel : decode (zYf 51).2.1 82 = .ok (.return_, 1)) rfl
theorem zf_zm_51_38 (env : List (Nat × Nat)) : zI9 51 zY_51 zm_51 env (83, 99, 0, 0, 0) 0 := zi_none
set_option maxRecDepth 100000 in
theorem zc_zm_51 (env : List (Nat × Nat)) : zcode zX (z_QF zEX zcl zft) (z_zm zEX zX zWL zcl zft zYf) zYf zW zET zcl zft (zGv env) 51 zm_51 zm_51.1 := ⟨Or.inl ⟨1, zf_zm_51_0 env, zpc_c⟩,
  Or.inl ⟨4, zf_zm_51_1 env, zpc_c⟩,
  Or.inl ⟨5, zf_zm_51_2 env, zpc_c⟩,
  Or.inl ⟨6, zf_zm_51_3 env, zpc_c⟩,
  Or.inl ⟨9, zf_zm_51_4 env, zpc_c⟩,
  Or.inl ⟨12, zf_zm_51_5 env, zpc_c⟩,
  Or.inl ⟨13, zf_zm_51_6 env, zpc_c⟩,
  Or.inl ⟨16, zf_zm_51_7 env, zpc_c⟩,
  Or.inl ⟨17, zf_zm_51_8 env, zpc_c⟩,
  Or.inl ⟨18, zf_zm_51_9 env, zpc_c⟩,
  Or.inl ⟨19, zf_zm_51_10 env, zpc_c⟩,
  Or.inl ⟨20, zf_zm_51_11 env, zpc_c⟩,
  Or.inl ⟨21, zf_zm_51_12 env, zpc_c⟩,
  Or.inl ⟨22, zf_zm_51_13 env, zpc_c⟩,
  Or.inl ⟨25, zf_zm_51_14 env, zpc_c⟩,
  Or.inl ⟨26, zf_zm_51_15 env, zpc_c⟩,
  Or.inl ⟨29, zf_zm_51_16 env, zpc_c⟩,
  Or.inl ⟨30, zf_zm_51_17 env, zpc_c⟩,
  Or.inl ⟨33, zf_zm_51_18 env, zpc_c⟩,
  Or.inl ⟨34, zf_zm_51_19 env, zpc_c⟩,
  Or.inl ⟨35, zf_zm_51_20 env, zpc_c⟩,
  Or.inl ⟨38, zf_zm_51_21 env, zpc_c⟩,
  Or.inl ⟨41, zf_zm_51_22 env, zpc_c⟩,
  Or.inl ⟨57, zf_zm_51_23 env, zpc_c⟩,
  Or.inl ⟨58, zf_zm_51_24 env, zpc_c⟩,
  Or.inl ⟨59, zf_zm_51_25 env, zpc_c⟩,
  Or.inl ⟨62, zf_zm_51_26 env, zpc_c⟩,
  Or.inl ⟨65, zf_zm_51_27 env, zpc_c⟩,
  Or.inl ⟨66, zf_zm_51_28 env, zpc_c⟩,
  Or.inl ⟨67, zf_zm_51_29 env, zpc_c⟩,
  Or.inl ⟨70, zf_zm_51_30 env, zpc_c⟩,
  Or.inl ⟨71, zf_zm_51_31 env, zpc_c⟩,
  Or.inl ⟨74, zf_zm_51_32 env, zpc_c⟩,
  Or.inl ⟨75, zf_zm_51_33 env, zpc_c⟩,
  Or.inl ⟨76, zf_zm_51_34 env, zpc_c⟩,
  Or.inr (Or.inr (Or.inl ⟨zf_zm_51_35 env, zpc_c⟩)),
  Or.inl ⟨82, zf_zm_51_36 env, zpc_c⟩,
  Or.inr (Or.inl (zf_zm_51_37 env)),
  Or.inl ⟨0, zf_zm_51_38 env, zpc_n⟩, trivial⟩
theorem zf_zm_52_0 (env : List (Nat × Nat)) : zI9 52 zY_52 zm_52 env (0, 0, 0, 0, 0) 1 := zi_aload_n (by decide +kernel : decode zY_52.2.1 0 = .ok (.aload_n 0, 1)) rfl
theorem zf_zm_52_1 (env : List (Nat × Nat)) : zI9 52 zY_52 zm_52 env (1, 63, 1, 0, 0) 2 := zi_iload_n (by decide +kernel : decode zY_52.2.1 1 = .ok (.iload_n 1, 1)) rfl
theorem zf_zm_52_2 (env : List (Nat × Nat)) : zC9 52 zm_52 env (2, 66, 45, 65, 0) := zi_call (by decide +kernel) (zr_S (i := 106) zX_ok rfl (zgood_45) (by decide +kernel) (zw_T zwd_250) (zw_T zwd_261) (zw_T zwd_262) ⟨by decide +kernel, by decide +kernel, by decide +kernel⟩ (by decide +kernel : decode (zYf 52).2.1 2 = .ok (.invokestatic 106, 3)))
theorem zf_zm_52_3 (env : List (Nat × Nat)) : zI9 52 zY_52 zm_52 env (5, 2, 1, 0, 0) 6 := zi_iconst (by decide +kernel : decode zY_52.2.1 5 = .ok (.iconst 1, 1)) (by decide +kernel)
theorem zf_zm_52_4 (env : List (Nat × Nat)) : zC9 52 zm_52 env (6, 66, 44, 195, 3) := zi_call (by decide +kernel) (zr_V (i := 102) (n := 2) (q := ("TransportPairModel", zF_1, 23)) zX_ok rfl (zgood_44) (by decide +kernel) (zw_T zwd_250) (zw_T zwd_259) (zw_T zwd_260) rfl (zw_T (zt_sel (y := ⟨"TransportPairModel","fails","(ZI)Z"⟩) (n := 23) 102 (by decide +kernel))) ⟨by decide +kernel, by decide +kernel, by decide +kernel⟩ rfl (by decide +kernel : decode (zYf 52).2.1 6 = .ok (.invokevirtual 102, 3)))
theorem zf_zm_52_5 (env : List (Nat × Nat)) : zI9 52 zY_52 zm_52 env (9, 5, 8, 0, 0) 12 := zi_if_eq (off := 7) (t := 16) (by decide +kernel : decode zY_52.2.1 9 = .ok (.ifCond .eq 7, 3)) (by decide) (by decide +kernel)
theorem zf_zm_52_6 (env : List (Nat × Nat)) : zI9 52 zY_52 zm_52 env (12, 2, 0, 0, 0) 13 := zi_iconst (by decide +kernel : decode zY_52.2.1 12 = .ok (.iconst 0, 1)) (by decide +kernel)
theorem zf_zm_52_7 (env : List (Nat × Nat)) : zI9 52 zY_52 zm_52 env (13, 7, 13, 0, 0) 16 := zi_goto (off := 12) (t := 25) (by decide +kernel : decode zY_52.2.1 13 = .ok (.goto 12, 3)) (by decide) (by decide +kernel)
theorem zf_zm_52_8 (env : List (Nat × Nat)) : zI9 52 zY_52 zm_52 env (16, 0, 0, 0, 0) 17 := zi_aload_n (by decide +kernel : decode zY_52.2.1 16 = .ok (.aload_n 0, 1)) rfl
theorem zf_zm_52_9 (env : List (Nat × Nat)) : zI9 52 zY_52 zm_52 env (17, 1, 1, 6, 2) 20 := zi_getf (i := 28) (N := 23) (C := "TransportPairModel") (ref := "TransportPairModel") (T := zF_1) (by decide +kernel : decode zY_52.2.1 17 = .ok (.getfield 28, 3)) rfl zuw_1 (by decide) (zw_T zwd_224) rfl
theorem zf_zm_52_10 (env : List (Nat × Nat)) : zI9 52 zY_52 zm_52 env (20, 63, 1, 0, 0) 21 := zi_iload_n (by decide +kernel : decode zY_52.2.1 20 = .ok (.iload_n 1, 1)) rfl
theorem zf_zm_52_11 (env : List (Nat × Nat)) : zI9 52 zY_52 zm_52 env (21, 63, 2, 0, 0) 22 := zi_iload_n (by decide +kernel : decode zY_52.2.1 21 = .ok (.iload_n 2, 1)) rfl
theorem zf_zm_52_12 (env : List (Nat × Nat)) : zC9 52 zm_52 env (22, 66, 133, 198, 21) := zi_call (by decide +kernel) (zr_V (i := 137) (n := 2) (q := ("TransportPairModel$Streams", zF_19, 56)) zX_ok rfl (zgood_133) (by decide +kernel) (zw_T zwd_221) (zw_T zwd_266) (zw_T zwd_267) rfl (zw_T zwd_268) ⟨by decide +kernel, by decide +kernel, by decide +kernel⟩ rfl (by decide +kernel : decode (zYf 52).2.1 22 = .ok (.invokevirtual 137, 3)))
theorem zf_zm_52_13 (env : List (Nat × Nat)) : zR9 52 env (25, 11, 0, 0, 0) := zi_iret (by decide +kernel : decode (zYf 52).2.1 25 = .ok (.ireturn, 1)) rfl
set_option maxRecDepth 100000 in
theorem zc_zm_52 (env : List (Nat × Nat)) : zcode zX (z_QF zEX zcl zft) (z_zm zEX zX zWL zcl zft zYf) zYf zW zET zcl zft (zGv env) 52 zm_52 zm_52.1 := ⟨Or.inl ⟨1, zf_zm_52_0 env, zpc_c⟩,
  Or.inl ⟨2, zf_zm_52_1 env, zpc_c⟩,
  Or.inr (Or.inr (Or.inl ⟨zf_zm_52_2 env, zpc_c⟩)),
  Or.inl ⟨6, zf_zm_52_3 env, zpc_c⟩,
  Or.inr (Or.inr (Or.inl ⟨zf_zm_52_4 env, zpc_c⟩)),
  Or.inl ⟨12, zf_zm_52_5 env, zpc_c⟩,
  Or.inl ⟨13, zf_zm_52_6 env, zpc_c⟩,
  Or.inl ⟨16, zf_zm_52_7 env, zpc_c⟩,
  Or.inl ⟨17, zf_zm_52_8 env, zpc_c⟩,
  Or.inl ⟨20, zf_zm_52_9 env, zpc_c⟩,
  Or.inl ⟨21, zf_zm_52_10 env, zpc_c⟩,
  Or.inl ⟨22, zf_zm_52_11 env, zpc_c⟩,
  Or.inr (Or.inr (Or.inl ⟨zf_zm_52_12 env, zpc_c⟩)),
  Or.inr (Or.inl (zf_zm_52_13 env)), trivial⟩
theorem zf_zm_53_0 (env : List (Nat × Nat)) : zI9 53 zY_53 zm_53 env (0, 0, 0, 0, 0) 1 := zi_aload_n (by decide +kernel : decode zY_53.2.1 0 = .ok (.aload_n 0, 1)) rfl
theorem zf_zm_53_1 (env : List (Nat × Nat)) : zI9 53 zY_53 zm_53 env (1, 63, 1, 0, 0) 2 := zi_iload_n (by decide +kernel : decode zY_53.2.1 1 = .ok (.iload_n 1, 1)) rfl
theorem zf_zm_53_2 (env : List (Nat × Nat)) : zC9 53 zm_53 env (2, 66, 45, 65, 0) := zi_call (by decide +kernel) (zr_S (i := 106) zX_ok rfl (zgood_45) (by decide +kernel) (zw_T zwd_250) (zw_T zwd_261) (zw_T zwd_262) ⟨by decide +kernel, by decide +kernel, by decide +kernel⟩ (by decide +kernel : decode (zYf 53).2.1 2 = .ok (.invokestatic 106, 3)))
theorem zf_zm_53_3 (env : List (Nat × Nat)) : zI9 53 zY_53 zm_53 env (5, 2, 1, 0, 0) 6 := zi_iconst (by decide +kernel : decode zY_53.2.1 5 = .ok (.iconst 1, 1)) (by decide +kernel)
theorem zf_zm_53_4 (env : List (Nat × Nat)) : zC9 53 zm_53 env (6, 66, 44, 195, 3) := zi_call (by decide +kernel) (zr_V (i := 102) (n := 2) (q := ("TransportPairModel", zF_1, 23)) zX_ok rfl (zgood_44) (by decide +kernel) (zw_T zwd_250) (zw_T zwd_259) (zw_T zwd_260) rfl (zw_T (zt_sel (y := ⟨"TransportPairModel","fails","(ZI)Z"⟩) (n := 23) 102 (by decide +kernel))) ⟨by decide +kernel, by decide +kernel, by decide +kernel⟩ rfl (by decide +kernel : decode (zYf 53).2.1 6 = .ok (.invokevirtual 102, 3)))
theorem zf_zm_53_5 (env : List (Nat × Nat)) : zI9 53 zY_53 zm_53 env (9, 5, 8, 0, 0) 12 := zi_if_eq (off := 5) (t := 14) (by decide +kernel : decode zY_53.2.1 9 = .ok (.ifCond .eq 5, 3)) (by decide) (by decide +kernel)
theorem zf_zm_53_6 (env : List (Nat × Nat)) : zI9 53 zY_53 zm_53 env (12, 2, 0, 0, 0) 13 := zi_iconst (by decide +kernel : decode zY_53.2.1 12 = .ok (.iconst 0, 1)) (by decide +kernel)
theorem zf_zm_53_7 (env : List (Nat × Nat)) : zR9 53 env (13, 11, 0, 0, 0) := zi_iret (by decide +kernel : decode (zYf 53).2.1 13 = .ok (.ireturn, 1)) rfl
theorem zf_zm_53_8 (env : List (Nat × Nat)) : zI9 53 zY_53 zm_53 env (14, 0, 0, 0, 0) 15 := zi_aload_n (by decide +kernel : decode zY_53.2.1 14 = .ok (.aload_n 0, 1)) rfl
theorem zf_zm_53_9 (env : List (Nat × Nat)) : zI9 53 zY_53 zm_53 env (15, 1, 1, 6, 2) 18 := zi_getf (i := 28) (N := 23) (C := "TransportPairModel") (ref := "TransportPairModel") (T := zF_1) (by decide +kernel : decode zY_53.2.1 15 = .ok (.getfield 28, 3)) rfl zuw_1 (by decide) (zw_T zwd_224) rfl
theorem zf_zm_53_10 (env : List (Nat × Nat)) : zI9 53 zY_53 zm_53 env (18, 63, 1, 0, 0) 19 := zi_iload_n (by decide +kernel : decode zY_53.2.1 18 = .ok (.iload_n 1, 1)) rfl
theorem zf_zm_53_11 (env : List (Nat × Nat)) : zI9 53 zY_53 zm_53 env (19, 63, 2, 0, 0) 20 := zi_iload_n (by decide +kernel : decode zY_53.2.1 19 = .ok (.iload_n 2, 1)) rfl
theorem zf_zm_53_12 (env : List (Nat × Nat)) : zI9 53 zY_53 zm_53 env (20, 0, 0, 0, 0) 21 := zi_aload_n (by decide +kernel : decode zY_53.2.1 20 = .ok (.aload_n 0, 1)) rfl
theorem zf_zm_53_13 (env : List (Nat × Nat)) : zI9 53 zY_53 zm_53 env (21, 1, 1, 1, 2) 24 := zi_getf (i := 8) (N := 23) (C := "TransportPairModel") (ref := "TransportPairModel") (T := zF_1) (by decide +kernel : decode zY_53.2.1 21 = .ok (.getfield 8, 3)) rfl zuw_1 (by decide) (zw_T zwd_212) rfl
theorem zf_zm_53_14 (env : List (Nat × Nat)) : zI9 53 zY_53 zm_53 env (24, 0, 0, 0, 0) 25 := zi_aload_n (by decide +kernel : decode zY_53.2.1 24 = .ok (.aload_n 0, 1)) rfl
theorem zf_zm_53_15 (env : List (Nat × Nat)) : zI9 53 zY_53 zm_53 env (25, 1, 1, 2, 0) 28 := zi_getf (i := 99) (N := 23) (C := "TransportPairModel") (ref := "TransportPairModel") (T := zF_1) (by decide +kernel : decode zY_53.2.1 25 = .ok (.getfield 99, 3)) rfl zuw_1 (by decide) (zw_T zwd_258) rfl
theorem zf_zm_53_16 (env : List (Nat × Nat)) : zC9 53 zm_53 env (28, 66, 134, 328, 21) := zi_call (by decide +kernel) (zr_V (i := 141) (n := 4) (q := ("TransportPairModel$Streams", zF_19, 56)) zX_ok rfl (zgood_134) (by decide +kernel) (zw_T zwd_221) (zw_T zwd_269) (zw_T zwd_270) rfl (zw_T zwd_271) ⟨by decide +kernel, by decide +kernel, by decide +kernel⟩ rfl (by decide +kernel : decode (zYf 53).2.1 28 = .ok (.invokevirtual 141, 3)))
theorem zf_zm_53_17 (env : List (Nat × Nat)) : zI9 53 zY_53 zm_53 env (31, 10, 3, 0, 0) 32 := zi_istore_n (by decide +kernel : decode zY_53.2.1 31 = .ok (.istore_n 3, 1)) rfl (by decide)
theorem zf_zm_53_18 (env : List (Nat × Nat)) : zI9 53 zY_53 zm_53 env (32, 0, 0, 0, 0) 33 := zi_aload_n (by decide +kernel : decode zY_53.2.1 32 = .ok (.aload_n 0, 1)) rfl
theorem zf_zm_53_19 (env : List (Nat × Nat)) : zI9 53 zY_53 zm_53 env (33, 2, 0, 0, 0) 34 := zi_iconst (by decide +kernel : decode zY_53.2.1 33 = .ok (.iconst 0, 1)) (by decide +kernel)
theorem zf_zm_53_20 (env : List (Nat × Nat)) : zI9 53 zY_53 zm_53 env (34, 4, 1, 2, 0) 37 := zi_putf (i := 99) (N := 23) (C := "TransportPairModel") (ref := "TransportPairModel") (T := zF_1) (by decide +kernel : decode zY_53.2.1 34 = .ok (.putfield 99, 3)) rfl zuw_1 zFt_1 zFn_1 (by decide) (zw_T zwd_258) rfl rfl (ty := .int) (by decide +kernel) (rfl)
theorem zf_zm_53_21 (env : List (Nat × Nat)) : zI9 53 zY_53 zm_53 env (37, 63, 3, 0, 0) 38 := zi_iload_n (by decide +kernel : decode zY_53.2.1 37 = .ok (.iload_n 3, 1)) rfl
theorem zf_zm_53_22 (env : List (Nat × Nat)) : zR9 53 env (38, 11, 0, 0, 0) := zi_iret (by decide +kernel : decode (zYf 53).2.1 38 = .ok (.ireturn, 1)) rfl
set_option maxRecDepth 100000 in
theorem zc_zm_53 (env : List (Nat × Nat)) : zcode zX (z_QF zEX zcl zft) (z_zm zEX zX zWL zcl zft zYf) zYf zW zET zcl zft (zGv env) 53 zm_53 zm_53.1 := ⟨Or.inl ⟨1, zf_zm_53_0 env, zpc_c⟩,
  Or.inl ⟨2, zf_zm_53_1 env, zpc_c⟩,
  Or.inr (Or.inr (Or.inl ⟨zf_zm_53_2 env, zpc_c⟩)),
  Or.inl ⟨6, zf_zm_53_3 env, zpc_c⟩,
  Or.inr (Or.inr (Or.inl ⟨zf_zm_53_4 env, zpc_c⟩)),
  Or.inl ⟨12, zf_zm_53_5 env, zpc_c⟩,
  Or.inl ⟨13, zf_zm_53_6 env, zpc_c⟩,
  Or.inr (Or.inl (zf_zm_53_7 env)),
  Or.inl ⟨15, zf_zm_53_8 env, zpc_c⟩,
  Or.inl ⟨18, zf_zm_53_9 env, zpc_c⟩,
  Or.inl ⟨19, zf_zm_53_10 env, zpc_c⟩,
  Or.inl ⟨20, zf_zm_53_11 env, zpc_c⟩,
  Or.inl ⟨21, zf_zm_53_12 env, zpc_c⟩,
  Or.inl ⟨24, zf_zm_53_13 env, zpc_c⟩,
  Or.inl ⟨25, zf_zm_53_14 env, zpc_c⟩,
  Or.inl ⟨28, zf_zm_53_15 env, zpc_c⟩,
  Or.inr (Or.inr (Or.inl ⟨zf_zm_53_16 env, zpc_c⟩)),
  Or.inl ⟨32, zf_zm_53_17 env, zpc_c⟩,
  Or.inl ⟨33, zf_zm_53_18 env, zpc_c⟩,
  Or.inl ⟨34, zf_zm_53_19 env, zpc_c⟩,
  Or.inl ⟨37, zf_zm_53_20 env, zpc_c⟩,
  Or.inl ⟨38, zf_zm_53_21 env, zpc_c⟩,
  Or.inr (Or.inl (zf_zm_53_22 env)), trivial⟩
theorem zf_zm_54_0 (env : List (Nat × Nat)) : zI9 54 zY_54 zm_54 env (0, 0, 0, 0, 0) 1 := zi_aload_n (by decide +kernel : decode zY_54.2.1 0 = .ok (.aload_n 0, 1)) rfl
theorem zf_zm_54_1 (env : List (Nat × Nat)) : zI9 54 zY_54 zm_54 env (1, 63, 1, 0, 0) 2 := zi_iload_n (by decide +kernel : decode zY_54.2.1 1 = .ok (.iload_n 1, 1)) rfl
theorem zf_zm_54_2 (env : List (Nat × Nat)) : zC9 54 zm_54 env (2, 66, 45, 65, 0) := zi_call (by decide +kernel) (zr_S (i := 106) zX_ok rfl (zgood_45) (by decide +kernel) (zw_T zwd_250) (zw_T zwd_261) (zw_T zwd_262) ⟨by decide +kernel, by decide +kernel, by decide +kernel⟩ (by decide +kernel : decode (zYf 54).2.1 2 = .ok (.invokestatic 106, 3)))
theorem zf_zm_54_3 (env : List (Nat × Nat)) : zI9 54 zY_54 zm_54 env (5, 2, 1, 0, 0) 6 := zi_iconst (by decide +kernel : decode zY_54.2.1 5 = .ok (.iconst 1, 1)) (by decide +kernel)
theorem zf_zm_54_4 (env : List (Nat × Nat)) : zC9 54 zm_54 env (6, 66, 44, 195, 3) := zi_call (by decide +kernel) (zr_V (i := 102) (n := 2) (q := ("TransportPairModel", zF_1, 23)) zX_ok rfl (zgood_44) (by decide +kernel) (zw_T zwd_250) (zw_T zwd_259) (zw_T zwd_260) rfl (zw_T (zt_sel (y := ⟨"TransportPairModel","fails","(ZI)Z"⟩) (n := 23) 102 (by decide +kernel))) ⟨by decide +kernel, by decide +kernel, by decide +kernel⟩ rfl (by decide +kernel : decode (zYf 54).2.1 6 = .ok (.invokevirtual 102, 3)))
theorem zf_zm_54_5 (env : List (Nat × Nat)) : zI9 54 zY_54 zm_54 env (9, 6, 13, 0, 0) 12 := zi_if_ne (off := 19) (t := 28) (by decide +kernel : decode zY_54.2.1 9 = .ok (.ifCond .ne 19, 3)) (by decide) (by decide +kernel)
theorem zf_zm_54_6 (env : List (Nat × Nat)) : zI9 54 zY_54 zm_54 env (12, 0, 0, 0, 0) 13 := zi_aload_n (by decide +kernel : decode zY_54.2.1 12 = .ok (.aload_n 0, 1)) rfl
theorem zf_zm_54_7 (env : List (Nat × Nat)) : zI9 54 zY_54 zm_54 env (13, 1, 1, 6, 2) 16 := zi_getf (i := 28) (N := 23) (C := "TransportPairModel") (ref := "TransportPairModel") (T := zF_1) (by decide +kernel : decode zY_54.2.1 13 = .ok (.getfield 28, 3)) rfl zuw_1 (by decide) (zw_T zwd_224) rfl
theorem zf_zm_54_8 (env : List (Nat × Nat)) : zI9 54 zY_54 zm_54 env (16, 63, 1, 0, 0) 17 := zi_iload_n (by decide +kernel : decode zY_54.2.1 16 = .ok (.iload_n 1, 1)) rfl
theorem zf_zm_54_9 (env : List (Nat × Nat)) : zI9 54 zY_54 zm_54 env (17, 63, 2, 0, 0) 18 := zi_iload_n (by decide +kernel : decode zY_54.2.1 17 = .ok (.iload_n 2, 1)) rfl
theorem zf_zm_54_10 (env : List (Nat × Nat)) : zC9 54 zm_54 env (18, 66, 135, 195, 21) := zi_call (by decide +kernel) (zr_V (i := 145) (n := 2) (q := ("TransportPairModel$Streams", zF_19, 56)) zX_ok rfl (zgood_135) (by decide +kernel) (zw_T zwd_221) (zw_T zwd_272) (zw_T zwd_273) rfl (zw_T zwd_274) ⟨by decide +kernel, by decide +kernel, by decide +kernel⟩ rfl (by decide +kernel : decode (zYf 54).2.1 18 = .ok (.invokevirtual 145, 3)))
theorem zf_zm_54_11 (env : List (Nat × Nat)) : zI9 54 zY_54 zm_54 env (21, 5, 13, 0, 0) 24 := zi_if_eq (off := 7) (t := 28) (by decide +kernel : decode zY_54.2.1 21 = .ok (.ifCond .eq 7, 3)) (by decide) (by decide +kernel)
theorem zf_zm_54_12 (env : List (Nat × Nat)) : zI9 54 zY_54 zm_54 env (24, 99, 0, 0, 0) 28 := zi_none
theorem zf_zm_54_13 (env : List (Nat × Nat)) : zI9 54 zY_54 zm_54 env (28, 2, 0, 0, 0) 29 := zi_iconst (by decide +kernel : decode zY_54.2.1 28 = .ok (.iconst 0, 1)) (by decide +kernel)
theorem zf_zm_54_14 (env : List (Nat × Nat)) : zR9 54 env (29, 11, 3, 0, 0) := zi_zret (by decide +kernel : decode (zYf 54).2.1 29 = .ok (.ireturn, 1)) rfl
set_option maxRecDepth 100000 in
theorem zc_zm_54 (env : List (Nat × Nat)) : zcode zX (z_QF zEX zcl zft) (z_zm zEX zX zWL zcl zft zYf) zYf zW zET zcl zft (zGv env) 54 zm_54 zm_54.1 := ⟨Or.inl ⟨1, zf_zm_54_0 env, zpc_c⟩,
  Or.inl ⟨2, zf_zm_54_1 env, zpc_c⟩,
  Or.inr (Or.inr (Or.inl ⟨zf_zm_54_2 env, zpc_c⟩)),
  Or.inl ⟨6, zf_zm_54_3 env, zpc_c⟩,
  Or.inr (Or.inr (Or.inl ⟨zf_zm_54_4 env, zpc_c⟩)),
  Or.inl ⟨12, zf_zm_54_5 env, zpc_c⟩,
  Or.inl ⟨13, zf_zm_54_6 env, zpc_c⟩,
  Or.inl ⟨16, zf_zm_54_7 env, zpc_c⟩,
  Or.inl ⟨17, zf_zm_54_8 env, zpc_c⟩,
  Or.inl ⟨18, zf_zm_54_9 env, zpc_c⟩,
  Or.inr (Or.inr (Or.inl ⟨zf_zm_54_10 env, zpc_c⟩)),
  Or.inl ⟨24, zf_zm_54_11 env, zpc_c⟩,
  Or.inl ⟨28, zf_zm_54_12 env, zpc_c⟩,
  Or.inl ⟨29, zf_zm_54_13 env, zpc_c⟩,
  Or.inr (Or.inl (zf_zm_54_14 env)), trivial⟩
theorem zf_zm_55_0 (env : List (Nat × Nat)) : zI9 55 zY_55 zm_55 env (0, 0, 0, 0, 0) 1 := zi_aload_n (by decide +kernel : decode zY_55.2.1 0 = .ok (.aload_n 0, 1)) rfl
theorem zf_zm_55_1 (env : List (Nat × Nat)) : zI9 55 zY_55 zm_55 env (1, 63, 1, 0, 0) 2 := zi_iload_n (by decide +kernel : decode zY_55.2.1 1 = .ok (.iload_n 1, 1)) rfl
theorem zf_zm_55_2 (env : List (Nat × Nat)) : zC9 55 zm_55 env (2, 66, 45, 65, 0) := zi_call (by decide +kernel) (zr_S (i := 106) zX_ok rfl (zgood_45) (by decide +kernel) (zw_T zwd_250) (zw_T zwd_261) (zw_T zwd_262) ⟨by decide +kernel, by decide +kernel, by decide +kernel⟩ (by decide +kernel : decode (zYf 55).2.1 2 = .ok (.invokestatic 106, 3)))
theorem zf_zm_55_3 (env : List (Nat × Nat)) : zI9 55 zY_55 zm_55 env (5, 6, 6, 0, 0) 8 := zi_if_ne (off := 7) (t := 12) (by decide +kernel : decode zY_55.2.1 5 = .ok (.ifCond .ne 7, 3)) (by decide) (by decide +kernel)
theorem zf_zm_55_4 (env : List (Nat × Nat)) : zI9 55 zY_55 zm_55 env (8, 63, 3, 0, 0) 9 := zi_iload_n (by decide +kernel : decode zY_55.2.1 8 = .ok (.iload_n 3, 1)) rfl
theorem zf_zm_55_5 (env : List (Nat × Nat)) : zI9 55 zY_55 zm_55 env (9, 23, 8, 0, 0) 12 := zi_if_ge (off := 7) (t := 16) (by decide +kernel : decode zY_55.2.1 9 = .ok (.ifCond .ge 7, 3)) (by decide) (by decide +kernel)
theorem zf_zm_55_6 (env : List (Nat × Nat)) : zI9 55 zY_55 zm_55 env (12, 2, 1, 0, 0) 13 := zi_iconst (by decide +kernel : decode zY_55.2.1 12 = .ok (.iconst 1, 1)) (by decide +kernel)
theorem zf_zm_55_7 (env : List (Nat × Nat)) : zI9 55 zY_55 zm_55 env (13, 7, 9, 0, 0) 16 := zi_goto (off := 4) (t := 17) (by decide +kernel : decode zY_55.2.1 13 = .ok (.goto 4, 3)) (by decide) (by decide +kernel)
theorem zf_zm_55_8 (env : List (Nat × Nat)) : zI9 55 zY_55 zm_55 env (16, 2, 0, 0, 0) 17 := zi_iconst (by decide +kernel : decode zY_55.2.1 16 = .ok (.iconst 0, 1)) (by decide +kernel)
theorem zf_zm_55_9 (env : List (Nat × Nat)) : zI9 55 zY_55 zm_55 env (17, 2, 1, 0, 0) 18 := zi_iconst (by decide +kernel : decode zY_55.2.1 17 = .ok (.iconst 1, 1)) (by decide +kernel)
theorem zf_zm_55_10 (env : List (Nat × Nat)) : zC9 55 zm_55 env (18, 66, 44, 195, 3) := zi_call (by decide +kernel) (zr_V (i := 102) (n := 2) (q := ("TransportPairModel", zF_1, 23)) zX_ok rfl (zgood_44) (by decide +kernel) (zw_T zwd_250) (zw_T zwd_259) (zw_T zwd_260) rfl (zw_T (zt_sel (y := ⟨"TransportPairModel","fails","(ZI)Z"⟩) (n := 23) 102 (by decide +kernel))) ⟨by decide +kernel, by decide +kernel, by decide +kernel⟩ rfl (by decide +kernel : decode (zYf 55).2.1 18 = .ok (.invokevirtual 102, 3)))
theorem zf_zm_55_11 (env : List (Nat × Nat)) : zI9 55 zY_55 zm_55 env (21, 6, 21, 0, 0) 24 := zi_if_ne (off := 21) (t := 42) (by decide +kernel : decode zY_55.2.1 21 = .ok (.ifCond .ne 21, 3)) (by decide) (by decide +kernel)
theorem zf_zm_55_12 (env : List (Nat × Nat)) : zI9 55 zY_55 zm_55 env (24, 0, 0, 0, 0) 25 := zi_aload_n (by decide +kernel : decode zY_55.2.1 24 = .ok (.aload_n 0, 1)) rfl
theorem zf_zm_55_13 (env : List (Nat × Nat)) : zI9 55 zY_55 zm_55 env (25, 1, 1, 6, 2) 28 := zi_getf (i := 28) (N := 23) (C := "TransportPairModel") (ref := "TransportPairModel") (T := zF_1) (by decide +kernel : decode zY_55.2.1 25 = .ok (.getfield 28, 3)) rfl zuw_1 (by decide) (zw_T zwd_224) rfl
theorem zf_zm_55_14 (env : List (Nat × Nat)) : zI9 55 zY_55 zm_55 env (28, 63, 1, 0, 0) 29 := zi_iload_n (by decide +kernel : decode zY_55.2.1 28 = .ok (.iload_n 1, 1)) rfl
theorem zf_zm_55_15 (env : List (Nat × Nat)) : zI9 55 zY_55 zm_55 env (29, 63, 2, 0, 0) 30 := zi_iload_n (by decide +kernel : decode zY_55.2.1 29 = .ok (.iload_n 2, 1)) rfl
theorem zf_zm_55_16 (env : List (Nat × Nat)) : zI9 55 zY_55 zm_55 env (30, 63, 3, 0, 0) 31 := zi_iload_n (by decide +kernel : decode zY_55.2.1 30 = .ok (.iload_n 3, 1)) rfl
theorem zf_zm_55_17 (env : List (Nat × Nat)) : zI9 55 zY_55 zm_55 env (31, 16, 0, 0, 0) 32 := zi_i2l (by decide +kernel : decode zY_55.2.1 31 = .ok (.i2l, 1))
theorem zf_zm_55_18 (env : List (Nat × Nat)) : zC9 55 zm_55 env (32, 66, 136, 261, 21) := zi_call (by decide +kernel) (zr_V (i := 149) (n := 3) (q := ("TransportPairModel$Streams", zF_19, 56)) zX_ok rfl (zgood_136) (by decide +kernel) (zw_T zwd_221) (zw_T zwd_275) (zw_T zwd_276) rfl (zw_T zwd_277) ⟨by decide +kernel, by decide +kernel, by decide +kernel⟩ rfl (by decide +kernel : decode (zYf 55).2.1 32 = .ok (.invokevirtual 149, 3)))
theorem zf_zm_55_19 (env : List (Nat × Nat)) : zI9 55 zY_55 zm_55 env (35, 5, 21, 0, 0) 38 := zi_if_eq (off := 7) (t := 42) (by decide +kernel : decode zY_55.2.1 35 = .ok (.ifCond .eq 7, 3)) (by decide) (by decide +kernel)
theorem zf_zm_55_20 (env : List (Nat × Nat)) : zI9 55 zY_55 zm_55 env (38, 99, 0, 0, 0) 42 := zi_none
theorem zf_zm_55_21 (env : List (Nat × Nat)) : zI9 55 zY_55 zm_55 env (42, 2, 0, 0, 0) 43 := zi_iconst (by decide +kernel : decode zY_55.2.1 42 = .ok (.iconst 0, 1)) (by decide +kernel)
theorem zf_zm_55_22 (env : List (Nat × Nat)) : zR9 55 env (43, 11, 3, 0, 0) := zi_zret (by decide +kernel : decode (zYf 55).2.1 43 = .ok (.ireturn, 1)) rfl
set_option maxRecDepth 100000 in
theorem zc_zm_55 (env : List (Nat × Nat)) : zcode zX (z_QF zEX zcl zft) (z_zm zEX zX zWL zcl zft zYf) zYf zW zET zcl zft (zGv env) 55 zm_55 zm_55.1 := ⟨Or.inl ⟨1, zf_zm_55_0 env, zpc_c⟩,
  Or.inl ⟨2, zf_zm_55_1 env, zpc_c⟩,
  Or.inr (Or.inr (Or.inl ⟨zf_zm_55_2 env, zpc_c⟩)),
  Or.inl ⟨8, zf_zm_55_3 env, zpc_c⟩,
  Or.inl ⟨9, zf_zm_55_4 env, zpc_c⟩,
  Or.inl ⟨12, zf_zm_55_5 env, zpc_c⟩,
  Or.inl ⟨13, zf_zm_55_6 env, zpc_c⟩,
  Or.inl ⟨16, zf_zm_55_7 env, zpc_c⟩,
  Or.inl ⟨17, zf_zm_55_8 env, zpc_c⟩,
  Or.inl ⟨18, zf_zm_55_9 env, zpc_c⟩,
  Or.inr (Or.inr (Or.inl ⟨zf_zm_55_10 env, zpc_c⟩)),
  Or.inl ⟨24, zf_zm_55_11 env, zpc_c⟩,
  Or.inl ⟨25, zf_zm_55_12 env, zpc_c⟩,
  Or.inl ⟨28, zf_zm_55_13 env, zpc_c⟩,
  Or.inl ⟨29, zf_zm_55_14 env, zpc_c⟩,
  Or.inl ⟨30, zf_zm_55_15 env, zpc_c⟩,
  Or.inl ⟨31, zf_zm_55_16 env, zpc_c⟩,
  Or.inl ⟨32, zf_zm_55_17 env, zpc_c⟩,
  Or.inr (Or.inr (Or.inl ⟨zf_zm_55_18 env, zpc_c⟩)),
  Or.inl ⟨38, zf_zm_55_19 env, zpc_c⟩,
  Or.inl ⟨42, zf_zm_55_20 env, zpc_c⟩,
  Or.inl ⟨43, zf_zm_55_21 env, zpc_c⟩,
  Or.inr (Or.inl (zf_zm_55_22 env)), trivial⟩
theorem zf_zm_56_0 (env : List (Nat × Nat)) : zI9 56 zY_56 zm_56 env (0, 0, 0, 0, 0) 1 := zi_aload_n (by decide +kernel : decode zY_56.2.1 0 = .ok (.aload_n 0, 1)) rfl
theorem zf_zm_56_1 (env : List (Nat × Nat)) : zI9 56 zY_56 zm_56 env (1, 63, 1, 0, 0) 2 := zi_iload_n (by decide +kernel : decode zY_56.2.1 1 = .ok (.iload_n 1, 1)) rfl
theorem zf_zm_56_2 (env : List (Nat × Nat)) : zC9 56 zm_56 env (2, 66, 45, 65, 0) := zi_call (by decide +kernel) (zr_S (i := 106) zX_ok rfl (zgood_45) (by decide +kernel) (zw_T zwd_250) (zw_T zwd_261) (zw_T zwd_262) ⟨by decide +kernel, by decide +kernel, by decide +kernel⟩ (by decide +kernel : decode (zYf 56).2.1 2 = .ok (.invokestatic 106, 3)))
theorem zf_zm_56_3 (env : List (Nat × Nat)) : zI9 56 zY_56 zm_56 env (5, 6, 6, 0, 0) 8 := zi_if_ne (off := 7) (t := 12) (by decide +kernel : decode zY_56.2.1 5 = .ok (.ifCond .ne 7, 3)) (by decide) (by decide +kernel)
theorem zf_zm_56_4 (env : List (Nat × Nat)) : zI9 56 zY_56 zm_56 env (8, 63, 3, 0, 0) 9 := zi_iload_n (by decide +kernel : decode zY_56.2.1 8 = .ok (.iload_n 3, 1)) rfl
theorem zf_zm_56_5 (env : List (Nat × Nat)) : zI9 56 zY_56 zm_56 env (9, 23, 8, 0, 0) 12 := zi_if_ge (off := 7) (t := 16) (by decide +kernel : decode zY_56.2.1 9 = .ok (.ifCond .ge 7, 3)) (by decide) (by decide +kernel)
theorem zf_zm_56_6 (env : List (Nat × Nat)) : zI9 56 zY_56 zm_56 env (12, 2, 1, 0, 0) 13 := zi_iconst (by decide +kernel : decode zY_56.2.1 12 = .ok (.iconst 1, 1)) (by decide +kernel)
theorem zf_zm_56_7 (env : List (Nat × Nat)) : zI9 56 zY_56 zm_56 env (13, 7, 9, 0, 0) 16 := zi_goto (off := 4) (t := 17) (by decide +kernel : decode zY_56.2.1 13 = .ok (.goto 4, 3)) (by decide) (by decide +kernel)
theorem zf_zm_56_8 (env : List (Nat × Nat)) : zI9 56 zY_56 zm_56 env (16, 2, 0, 0, 0) 17 := zi_iconst (by decide +kernel : decode zY_56.2.1 16 = .ok (.iconst 0, 1)) (by decide +kernel)
theorem zf_zm_56_9 (env : List (Nat × Nat)) : zI9 56 zY_56 zm_56 env (17, 2, 1, 0, 0) 18 := zi_iconst (by decide +kernel : decode zY_56.2.1 17 = .ok (.iconst 1, 1)) (by decide +kernel)
theorem zf_zm_56_10 (env : List (Nat × Nat)) : zC9 56 zm_56 env (18, 66, 44, 195, 3) := zi_call (by decide +kernel) (zr_V (i := 102) (n := 2) (q := ("TransportPairModel", zF_1, 23)) zX_ok rfl (zgood_44) (by decide +kernel) (zw_T zwd_250) (zw_T zwd_259) (zw_T zwd_260) rfl (zw_T (zt_sel (y := ⟨"TransportPairModel","fails","(ZI)Z"⟩) (n := 23) 102 (by decide +kernel))) ⟨by decide +kernel, by decide +kernel, by decide +kernel⟩ rfl (by decide +kernel : decode (zYf 56).2.1 18 = .ok (.invokevirtual 102, 3)))
theorem zf_zm_56_11 (env : List (Nat × Nat)) : zI9 56 zY_56 zm_56 env (21, 6, 21, 0, 0) 24 := zi_if_ne (off := 21) (t := 42) (by decide +kernel : decode zY_56.2.1 21 = .ok (.ifCond .ne 21, 3)) (by decide) (by decide +kernel)
theorem zf_zm_56_12 (env : List (Nat × Nat)) : zI9 56 zY_56 zm_56 env (24, 0, 0, 0, 0) 25 := zi_aload_n (by decide +kernel : decode zY_56.2.1 24 = .ok (.aload_n 0, 1)) rfl
theorem zf_zm_56_13 (env : List (Nat × Nat)) : zI9 56 zY_56 zm_56 env (25, 1, 1, 6, 2) 28 := zi_getf (i := 28) (N := 23) (C := "TransportPairModel") (ref := "TransportPairModel") (T := zF_1) (by decide +kernel : decode zY_56.2.1 25 = .ok (.getfield 28, 3)) rfl zuw_1 (by decide) (zw_T zwd_224) rfl
theorem zf_zm_56_14 (env : List (Nat × Nat)) : zI9 56 zY_56 zm_56 env (28, 63, 1, 0, 0) 29 := zi_iload_n (by decide +kernel : decode zY_56.2.1 28 = .ok (.iload_n 1, 1)) rfl
theorem zf_zm_56_15 (env : List (Nat × Nat)) : zI9 56 zY_56 zm_56 env (29, 63, 2, 0, 0) 30 := zi_iload_n (by decide +kernel : decode zY_56.2.1 29 = .ok (.iload_n 2, 1)) rfl
theorem zf_zm_56_16 (env : List (Nat × Nat)) : zI9 56 zY_56 zm_56 env (30, 63, 3, 0, 0) 31 := zi_iload_n (by decide +kernel : decode zY_56.2.1 30 = .ok (.iload_n 3, 1)) rfl
theorem zf_zm_56_17 (env : List (Nat × Nat)) : zI9 56 zY_56 zm_56 env (31, 16, 0, 0, 0) 32 := zi_i2l (by decide +kernel : decode zY_56.2.1 31 = .ok (.i2l, 1))
theorem zf_zm_56_18 (env : List (Nat × Nat)) : zC9 56 zm_56 env (32, 66, 137, 262, 21) := zi_call (by decide +kernel) (zr_V (i := 153) (n := 3) (q := ("TransportPairModel$Streams", zF_19, 56)) zX_ok rfl (zgood_137) (by decide +kernel) (zw_T zwd_221) (zw_T zwd_278) (zw_T zwd_279) rfl (zw_T zwd_280) ⟨by decide +kernel, by decide +kernel, by decide +kernel⟩ rfl (by decide +kernel : decode (zYf 56).2.1 32 = .ok (.invokevirtual 153, 3)))
theorem zf_zm_56_19 (env : List (Nat × Nat)) : zI9 56 zY_56 zm_56 env (35, 5, 21, 0, 0) 38 := zi_if_eq (off := 7) (t := 42) (by decide +kernel : decode zY_56.2.1 35 = .ok (.ifCond .eq 7, 3)) (by decide) (by decide +kernel)
theorem zf_zm_56_20 (env : List (Nat × Nat)) : zI9 56 zY_56 zm_56 env (38, 99, 0, 0, 0) 42 := zi_none
theorem zf_zm_56_21 (env : List (Nat × Nat)) : zI9 56 zY_56 zm_56 env (42, 2, 0, 0, 0) 43 := zi_iconst (by decide +kernel : decode zY_56.2.1 42 = .ok (.iconst 0, 1)) (by decide +kernel)
theorem zf_zm_56_22 (env : List (Nat × Nat)) : zR9 56 env (43, 11, 3, 0, 0) := zi_zret (by decide +kernel : decode (zYf 56).2.1 43 = .ok (.ireturn, 1)) rfl
set_option maxRecDepth 100000 in
theorem zc_zm_56 (env : List (Nat × Nat)) : zcode zX (z_QF zEX zcl zft) (z_zm zEX zX zWL zcl zft zYf) zYf zW zET zcl zft (zGv env) 56 zm_56 zm_56.1 := ⟨Or.inl ⟨1, zf_zm_56_0 env, zpc_c⟩,
  Or.inl ⟨2, zf_zm_56_1 env, zpc_c⟩,
  Or.inr (Or.inr (Or.inl ⟨zf_zm_56_2 env, zpc_c⟩)),
  Or.inl ⟨8, zf_zm_56_3 env, zpc_c⟩,
  Or.inl ⟨9, zf_zm_56_4 env, zpc_c⟩,
  Or.inl ⟨12, zf_zm_56_5 env, zpc_c⟩,
  Or.inl ⟨13, zf_zm_56_6 env, zpc_c⟩,
  Or.inl ⟨16, zf_zm_56_7 env, zpc_c⟩,
  Or.inl ⟨17, zf_zm_56_8 env, zpc_c⟩,
  Or.inl ⟨18, zf_zm_56_9 env, zpc_c⟩,
  Or.inr (Or.inr (Or.inl ⟨zf_zm_56_10 env, zpc_c⟩)),
  Or.inl ⟨24, zf_zm_56_11 env, zpc_c⟩,
  Or.inl ⟨25, zf_zm_56_12 env, zpc_c⟩,
  Or.inl ⟨28, zf_zm_56_13 env, zpc_c⟩,
  Or.inl ⟨29, zf_zm_56_14 env, zpc_c⟩,
  Or.inl ⟨30, zf_zm_56_15 env, zpc_c⟩,
  Or.inl ⟨31, zf_zm_56_16 env, zpc_c⟩,
  Or.inl ⟨32, zf_zm_56_17 env, zpc_c⟩,
  Or.inr (Or.inr (Or.inl ⟨zf_zm_56_18 env, zpc_c⟩)),
  Or.inl ⟨38, zf_zm_56_19 env, zpc_c⟩,
  Or.inl ⟨42, zf_zm_56_20 env, zpc_c⟩,
  Or.inl ⟨43, zf_zm_56_21 env, zpc_c⟩,
  Or.inr (Or.inl (zf_zm_56_22 env)), trivial⟩
theorem zf_zm_57_0 (env : List (Nat × Nat)) : zI9 57 zY_57 zm_57 env (0, 0, 0, 0, 0) 1 := zi_aload_n (by decide +kernel : decode zY_57.2.1 0 = .ok (.aload_n 0, 1)) rfl
theorem zf_zm_57_1 (env : List (Nat × Nat)) : zI9 57 zY_57 zm_57 env (1, 63, 1, 0, 0) 2 := zi_iload_n (by decide +kernel : decode zY_57.2.1 1 = .ok (.iload_n 1, 1)) rfl
theorem zf_zm_57_2 (env : List (Nat × Nat)) : zC9 57 zm_57 env (2, 66, 45, 65, 0) := zi_call (by decide +kernel) (zr_S (i := 106) zX_ok rfl (zgood_45) (by decide +kernel) (zw_T zwd_250) (zw_T zwd_261) (zw_T zwd_262) ⟨by decide +kernel, by decide +kernel, by decide +kernel⟩ (by decide +kernel : decode (zYf 57).2.1 2 = .ok (.invokestatic 106, 3)))
theorem zf_zm_57_3 (env : List (Nat × Nat)) : zI9 57 zY_57 zm_57 env (5, 6, 9, 0, 0) 8 := zi_if_ne (off := 14) (t := 19) (by decide +kernel : decode zY_57.2.1 5 = .ok (.ifCond .ne 14, 3)) (by decide) (by decide +kernel)
theorem zf_zm_57_4 (env : List (Nat × Nat)) : zI9 57 zY_57 zm_57 env (8, 63, 3, 0, 0) 9 := zi_iload_n (by decide +kernel : decode zY_57.2.1 8 = .ok (.iload_n 3, 1)) rfl
theorem zf_zm_57_5 (env : List (Nat × Nat)) : zI9 57 zY_57 zm_57 env (9, 22, 9, 0, 0) 12 := zi_if_lt (off := 10) (t := 19) (by decide +kernel : decode zY_57.2.1 9 = .ok (.ifCond .lt 10, 3)) (by decide) (by decide +kernel)
theorem zf_zm_57_6 (env : List (Nat × Nat)) : zI9 57 zY_57 zm_57 env (12, 63, 3, 0, 0) 13 := zi_iload_n (by decide +kernel : decode zY_57.2.1 12 = .ok (.iload_n 3, 1)) rfl
theorem zf_zm_57_7 (env : List (Nat × Nat)) : zI9 57 zY_57 zm_57 env (13, 2, 2048, 0, 0) 16 := zi_sipush (by decide +kernel : decode zY_57.2.1 13 = .ok (.sipush 2048, 3)) (by decide +kernel)
theorem zf_zm_57_8 (env : List (Nat × Nat)) : zI9 57 zY_57 zm_57 env (16, 27, 11, 0, 0) 19 := zi_icmp_le (off := 7) (t := 23) (by decide +kernel : decode zY_57.2.1 16 = .ok (.if_icmp .le 7, 3)) (by decide) (by decide +kernel)
theorem zf_zm_57_9 (env : List (Nat × Nat)) : zI9 57 zY_57 zm_57 env (19, 2, 1, 0, 0) 20 := zi_iconst (by decide +kernel : decode zY_57.2.1 19 = .ok (.iconst 1, 1)) (by decide +kernel)
theorem zf_zm_57_10 (env : List (Nat × Nat)) : zI9 57 zY_57 zm_57 env (20, 7, 12, 0, 0) 23 := zi_goto (off := 4) (t := 24) (by decide +kernel : decode zY_57.2.1 20 = .ok (.goto 4, 3)) (by decide) (by decide +kernel)
theorem zf_zm_57_11 (env : List (Nat × Nat)) : zI9 57 zY_57 zm_57 env (23, 2, 0, 0, 0) 24 := zi_iconst (by decide +kernel : decode zY_57.2.1 23 = .ok (.iconst 0, 1)) (by decide +kernel)
theorem zf_zm_57_12 (env : List (Nat × Nat)) : zI9 57 zY_57 zm_57 env (24, 2, 1, 0, 0) 25 := zi_iconst (by decide +kernel : decode zY_57.2.1 24 = .ok (.iconst 1, 1)) (by decide +kernel)
theorem zf_zm_57_13 (env : List (Nat × Nat)) : zC9 57 zm_57 env (25, 66, 44, 195, 3) := zi_call (by decide +kernel) (zr_V (i := 102) (n := 2) (q := ("TransportPairModel", zF_1, 23)) zX_ok rfl (zgood_44) (by decide +kernel) (zw_T zwd_250) (zw_T zwd_259) (zw_T zwd_260) rfl (zw_T (zt_sel (y := ⟨"TransportPairModel","fails","(ZI)Z"⟩) (n := 23) 102 (by decide +kernel))) ⟨by decide +kernel, by decide +kernel, by decide +kernel⟩ rfl (by decide +kernel : decode (zYf 57).2.1 25 = .ok (.invokevirtual 102, 3)))
theorem zf_zm_57_14 (env : List (Nat × Nat)) : zI9 57 zY_57 zm_57 env (28, 5, 17, 0, 0) 31 := zi_if_eq (off := 5) (t := 33) (by decide +kernel : decode zY_57.2.1 28 = .ok (.ifCond .eq 5, 3)) (by decide) (by decide +kernel)
theorem zf_zm_57_15 (env : List (Nat × Nat)) : zI9 57 zY_57 zm_57 env (31, 2, 0, 0, 0) 32 := zi_iconst (by decide +kernel : decode zY_57.2.1 31 = .ok (.iconst 0, 1)) (by decide +kernel)
theorem zf_zm_57_16 (env : List (Nat × Nat)) : zR9 57 env (32, 11, 0, 0, 0) := zi_iret (by decide +kernel : decode (zYf 57).2.1 32 = .ok (.ireturn, 1)) rfl
theorem zf_zm_57_17 (env : List (Nat × Nat)) : zI9 57 zY_57 zm_57 env (33, 0, 0, 0, 0) 34 := zi_aload_n (by decide +kernel : decode zY_57.2.1 33 = .ok (.aload_n 0, 1)) rfl
theorem zf_zm_57_18 (env : List (Nat × Nat)) : zI9 57 zY_57 zm_57 env (34, 1, 1, 6, 2) 37 := zi_getf (i := 28) (N := 23) (C := "TransportPairModel") (ref := "TransportPairModel") (T := zF_1) (by decide +kernel : decode zY_57.2.1 34 = .ok (.getfield 28, 3)) rfl zuw_1 (by decide) (zw_T zwd_224) rfl
theorem zf_zm_57_19 (env : List (Nat × Nat)) : zI9 57 zY_57 zm_57 env (37, 63, 1, 0, 0) 38 := zi_iload_n (by decide +kernel : decode zY_57.2.1 37 = .ok (.iload_n 1, 1)) rfl
theorem zf_zm_57_20 (env : List (Nat × Nat)) : zI9 57 zY_57 zm_57 env (38, 63, 2, 0, 0) 39 := zi_iload_n (by decide +kernel : decode zY_57.2.1 38 = .ok (.iload_n 2, 1)) rfl
theorem zf_zm_57_21 (env : List (Nat × Nat)) : zI9 57 zY_57 zm_57 env (39, 63, 3, 0, 0) 40 := zi_iload_n (by decide +kernel : decode zY_57.2.1 39 = .ok (.iload_n 3, 1)) rfl
theorem zf_zm_57_22 (env : List (Nat × Nat)) : zI9 57 zY_57 zm_57 env (40, 0, 0, 0, 0) 41 := zi_aload_n (by decide +kernel : decode zY_57.2.1 40 = .ok (.aload_n 0, 1)) rfl
theorem zf_zm_57_23 (env : List (Nat × Nat)) : zI9 57 zY_57 zm_57 env (41, 1, 1, 3, 2) 44 := zi_getf (i := 14) (N := 23) (C := "TransportPairModel") (ref := "TransportPairModel") (T := zF_1) (by decide +kernel : decode zY_57.2.1 41 = .ok (.getfield 14, 3)) rfl zuw_1 (by decide) (zw_T zwd_213) rfl
theorem zf_zm_57_24 (env : List (Nat × Nat)) : zC9 57 zm_57 env (44, 66, 138, 328, 21) := zi_call (by decide +kernel) (zr_V (i := 156) (n := 4) (q := ("TransportPairModel$Streams", zF_19, 56)) zX_ok rfl (zgood_138) (by decide +kernel) (zw_T zwd_221) (zw_T zwd_281) (zw_T zwd_282) rfl (zw_T zwd_283) ⟨by decide +kernel, by decide +kernel, by decide +kernel⟩ rfl (by decide +kernel : decode (zYf 57).2.1 44 = .ok (.invokevirtual 156, 3)))
theorem zf_zm_57_25 (env : List (Nat × Nat)) : zI9 57 zY_57 zm_57 env (47, 10, 4, 0, 0) 49 := zi_istore (by decide +kernel : decode zY_57.2.1 47 = .ok (.istore 4, 2)) (by decide)
theorem zf_zm_57_26 (env : List (Nat × Nat)) : zI9 57 zY_57 zm_57 env (49, 0, 0, 0, 0) 50 := zi_aload_n (by decide +kernel : decode zY_57.2.1 49 = .ok (.aload_n 0, 1)) rfl
theorem zf_zm_57_27 (env : List (Nat × Nat)) : zI9 57 zY_57 zm_57 env (50, 63, 4, 0, 0) 52 := zi_iload (by decide +kernel : decode zY_57.2.1 50 = .ok (.iload 4, 2))
theorem zf_zm_57_28 (env : List (Nat × Nat)) : zI9 57 zY_57 zm_57 env (52, 23, 31, 0, 0) 55 := zi_if_ge (off := 7) (t := 59) (by decide +kernel : decode zY_57.2.1 52 = .ok (.ifCond .ge 7, 3)) (by decide) (by decide +kernel)
theorem zf_zm_57_29 (env : List (Nat × Nat)) : zI9 57 zY_57 zm_57 env (55, 2, 0, 0, 0) 56 := zi_iconst (by decide +kernel : decode zY_57.2.1 55 = .ok (.iconst 0, 1)) (by decide +kernel)
theorem zf_zm_57_30 (env : List (Nat × Nat)) : zI9 57 zY_57 zm_57 env (56, 7, 32, 0, 0) 59 := zi_goto (off := 5) (t := 61) (by decide +kernel : decode zY_57.2.1 56 = .ok (.goto 5, 3)) (by decide) (by decide +kernel)
theorem zf_zm_57_31 (env : List (Nat × Nat)) : zI9 57 zY_57 zm_57 env (59, 99, 0, 0, 0) 61 := zi_none
theorem zf_zm_57_32 (env : List (Nat × Nat)) : zI9 57 zY_57 zm_57 env (61, 4, 1, 4, 0) 64 := zi_putf (i := 160) (N := 23) (C := "TransportPairModel") (ref := "TransportPairModel") (T := zF_1) (by decide +kernel : decode zY_57.2.1 61 = .ok (.putfield 160, 3)) rfl zuw_1 zFt_1 zFn_1 (by decide) (zw_T zwd_284) rfl rfl (ty := .int) (by decide +kernel) (rfl)
theorem zf_zm_57_33 (env : List (Nat × Nat)) : zI9 57 zY_57 zm_57 env (64, 63, 4, 0, 0) 66 := zi_iload (by decide +kernel : decode zY_57.2.1 64 = .ok (.iload 4, 2))
theorem zf_zm_57_34 (env : List (Nat × Nat)) : zR9 57 env (66, 11, 0, 0, 0) := zi_iret (by decide +kernel : decode (zYf 57).2.1 66 = .ok (.ireturn, 1)) rfl
set_option maxRecDepth 100000 in
theorem zc_zm_57 (env : List (Nat × Nat)) : zcode zX (z_QF zEX zcl zft) (z_zm zEX zX zWL zcl zft zYf) zYf zW zET zcl zft (zGv env) 57 zm_57 zm_57.1 := ⟨Or.inl ⟨1, zf_zm_57_0 env, zpc_c⟩,
  Or.inl ⟨2, zf_zm_57_1 env, zpc_c⟩,
  Or.inr (Or.inr (Or.inl ⟨zf_zm_57_2 env, zpc_c⟩)),
  Or.inl ⟨8, zf_zm_57_3 env, zpc_c⟩,
  Or.inl ⟨9, zf_zm_57_4 env, zpc_c⟩,
  Or.inl ⟨12, zf_zm_57_5 env, zpc_c⟩,
  Or.inl ⟨13, zf_zm_57_6 env, zpc_c⟩,
  Or.inl ⟨16, zf_zm_57_7 env, zpc_c⟩,
  Or.inl ⟨19, zf_zm_57_8 env, zpc_c⟩,
  Or.inl ⟨20, zf_zm_57_9 env, zpc_c⟩,
  Or.inl ⟨23, zf_zm_57_10 env, zpc_c⟩,
  Or.inl ⟨24, zf_zm_57_11 env, zpc_c⟩,
  Or.inl ⟨25, zf_zm_57_12 env, zpc_c⟩,
  Or.inr (Or.inr (Or.inl ⟨zf_zm_57_13 env, zpc_c⟩)),
  Or.inl ⟨31, zf_zm_57_14 env, zpc_c⟩,
  Or.inl ⟨32, zf_zm_57_15 env, zpc_c⟩,
  Or.inr (Or.inl (zf_zm_57_16 env)),
  Or.inl ⟨34, zf_zm_57_17 env, zpc_c⟩,
  Or.inl ⟨37, zf_zm_57_18 env, zpc_c⟩,
  Or.inl ⟨38, zf_zm_57_19 env, zpc_c⟩,
  Or.inl ⟨39, zf_zm_57_20 env, zpc_c⟩,
  Or.inl ⟨40, zf_zm_57_21 env, zpc_c⟩,
  Or.inl ⟨41, zf_zm_57_22 env, zpc_c⟩,
  Or.inl ⟨44, zf_zm_57_23 env, zpc_c⟩,
  Or.inr (Or.inr (Or.inl ⟨zf_zm_57_24 env, zpc_c⟩)),
  Or.inl ⟨49, zf_zm_57_25 env, zpc_c⟩,
  Or.inl ⟨50, zf_zm_57_26 env, zpc_c⟩,
  Or.inl ⟨52, zf_zm_57_27 env, zpc_c⟩,
  Or.inl ⟨55, zf_zm_57_28 env, zpc_c⟩,
  Or.inl ⟨56, zf_zm_57_29 env, zpc_c⟩,
  Or.inl ⟨59, zf_zm_57_30 env, zpc_c⟩,
  Or.inl ⟨61, zf_zm_57_31 env, zpc_c⟩,
  Or.inl ⟨64, zf_zm_57_32 env, zpc_c⟩,
  Or.inl ⟨66, zf_zm_57_33 env, zpc_c⟩,
  Or.inr (Or.inl (zf_zm_57_34 env)), trivial⟩
theorem zf_zm_58_0 (env : List (Nat × Nat)) : zI9 58 zY_58 zm_58 env (0, 0, 0, 0, 0) 1 := zi_aload_n (by decide +kernel : decode zY_58.2.1 0 = .ok (.aload_n 0, 1)) rfl
theorem zf_zm_58_1 (env : List (Nat × Nat)) : zI9 58 zY_58 zm_58 env (1, 63, 1, 0, 0) 2 := zi_iload_n (by decide +kernel : decode zY_58.2.1 1 = .ok (.iload_n 1, 1)) rfl
theorem zf_zm_58_2 (env : List (Nat × Nat)) : zI9 58 zY_58 zm_58 env (2, 22, 7, 0, 0) 5 := zi_if_lt (off := 11) (t := 13) (by decide +kernel : decode zY_58.2.1 2 = .ok (.ifCond .lt 11, 3)) (by decide) (by decide +kernel)
theorem zf_zm_58_3 (env : List (Nat × Nat)) : zI9 58 zY_58 zm_58 env (5, 63, 1, 0, 0) 6 := zi_iload_n (by decide +kernel : decode zY_58.2.1 5 = .ok (.iload_n 1, 1)) rfl
theorem zf_zm_58_4 (env : List (Nat × Nat)) : zI9 58 zY_58 zm_58 env (6, 0, 0, 0, 0) 7 := zi_aload_n (by decide +kernel : decode zY_58.2.1 6 = .ok (.aload_n 0, 1)) rfl
theorem zf_zm_58_5 (env : List (Nat × Nat)) : zI9 58 zY_58 zm_58 env (7, 1, 1, 4, 0) 10 := zi_getf (i := 160) (N := 23) (C := "TransportPairModel") (ref := "TransportPairModel") (T := zF_1) (by decide +kernel : decode zY_58.2.1 7 = .ok (.getfield 160, 3)) rfl zuw_1 (by decide) (zw_T zwd_284) rfl
theorem zf_zm_58_6 (env : List (Nat × Nat)) : zI9 58 zY_58 zm_58 env (10, 30, 9, 0, 0) 13 := zi_icmp_lt (off := 7) (t := 17) (by decide +kernel : decode zY_58.2.1 10 = .ok (.if_icmp .lt 7, 3)) (by decide) (by decide +kernel)
theorem zf_zm_58_7 (env : List (Nat × Nat)) : zI9 58 zY_58 zm_58 env (13, 2, 1, 0, 0) 14 := zi_iconst (by decide +kernel : decode zY_58.2.1 13 = .ok (.iconst 1, 1)) (by decide +kernel)
theorem zf_zm_58_8 (env : List (Nat × Nat)) : zI9 58 zY_58 zm_58 env (14, 7, 10, 0, 0) 17 := zi_goto (off := 4) (t := 18) (by decide +kernel : decode zY_58.2.1 14 = .ok (.goto 4, 3)) (by decide) (by decide +kernel)
theorem zf_zm_58_9 (env : List (Nat × Nat)) : zI9 58 zY_58 zm_58 env (17, 99, 0, 0, 0) 18 := zi_none
theorem zf_zm_58_10 (env : List (Nat × Nat)) : zI9 58 zY_58 zm_58 env (18, 2, 1, 0, 0) 19 := zi_iconst (by decide +kernel : decode zY_58.2.1 18 = .ok (.iconst 1, 1)) (by decide +kernel)
theorem zf_zm_58_11 (env : List (Nat × Nat)) : zC9 58 zm_58 env (19, 66, 44, 195, 3) := zi_call (by decide +kernel) (zr_V (i := 102) (n := 2) (q := ("TransportPairModel", zF_1, 23)) zX_ok rfl (zgood_44) (by decide +kernel) (zw_T zwd_250) (zw_T zwd_259) (zw_T zwd_260) rfl (zw_T (zt_sel (y := ⟨"TransportPairModel","fails","(ZI)Z"⟩) (n := 23) 102 (by decide +kernel))) ⟨by decide +kernel, by decide +kernel, by decide +kernel⟩ rfl (by decide +kernel : decode (zYf 58).2.1 19 = .ok (.invokevirtual 102, 3)))
theorem zf_zm_58_12 (env : List (Nat × Nat)) : zI9 58 zY_58 zm_58 env (22, 5, 15, 0, 0) 25 := zi_if_eq (off := 5) (t := 27) (by decide +kernel : decode zY_58.2.1 22 = .ok (.ifCond .eq 5, 3)) (by decide) (by decide +kernel)
theorem zf_zm_58_13 (env : List (Nat × Nat)) : zI9 58 zY_58 zm_58 env (25, 15, 0, 0, 0) 26 := zi_lconst (by decide +kernel : decode zY_58.2.1 25 = .ok (.lconst 0, 1)) (by decide +kernel)
theorem zf_zm_58_14 (env : List (Nat × Nat)) : zR9 58 env (26, 11, 1, 0, 0) := zi_lret (by decide +kernel : decode (zYf 58).2.1 26 = .ok (.lreturn, 1)) rfl
theorem zf_zm_58_15 (env : List (Nat × Nat)) : zI9 58 zY_58 zm_58 env (27, 99, 0, 0, 0) 0 := zi_none
set_option maxRecDepth 100000 in
theorem zc_zm_58 (env : List (Nat × Nat)) : zcode zX (z_QF zEX zcl zft) (z_zm zEX zX zWL zcl zft zYf) zYf zW zET zcl zft (zGv env) 58 zm_58 zm_58.1 := ⟨Or.inl ⟨1, zf_zm_58_0 env, zpc_c⟩,
  Or.inl ⟨2, zf_zm_58_1 env, zpc_c⟩,
  Or.inl ⟨5, zf_zm_58_2 env, zpc_c⟩,
  Or.inl ⟨6, zf_zm_58_3 env, zpc_c⟩,
  Or.inl ⟨7, zf_zm_58_4 env, zpc_c⟩,
  Or.inl ⟨10, zf_zm_58_5 env, zpc_c⟩,
  Or.inl ⟨13, zf_zm_58_6 env, zpc_c⟩,
  Or.inl ⟨14, zf_zm_58_7 env, zpc_c⟩,
  Or.inl ⟨17, zf_zm_58_8 env, zpc_c⟩,
  Or.inl ⟨18, zf_zm_58_9 env, zpc_c⟩,
  Or.inl ⟨19, zf_zm_58_10 env, zpc_c⟩,
  Or.inr (Or.inr (Or.inl ⟨zf_zm_58_11 env, zpc_c⟩)),
  Or.inl ⟨25, zf_zm_58_12 env, zpc_c⟩,
  Or.inl ⟨26, zf_zm_58_13 env, zpc_c⟩,
  Or.inr (Or.inl (zf_zm_58_14 env)),
  Or.inl ⟨0, zf_zm_58_15 env, zpc_n⟩, trivial⟩
theorem zf_zm_59_0 (env : List (Nat × Nat)) : zI9 59 zY_59 zm_59 env (0, 0, 0, 0, 0) 1 := zi_aload_n (by decide +kernel : decode zY_59.2.1 0 = .ok (.aload_n 0, 1)) rfl
theorem zf_zm_59_1 (env : List (Nat × Nat)) : zI9 59 zY_59 zm_59 env (1, 63, 1, 0, 0) 2 := zi_iload_n (by decide +kernel : decode zY_59.2.1 1 = .ok (.iload_n 1, 1)) rfl
theorem zf_zm_59_2 (env : List (Nat × Nat)) : zC9 59 zm_59 env (2, 66, 45, 65, 0) := zi_call (by decide +kernel) (zr_S (i := 106) zX_ok rfl (zgood_45) (by decide +kernel) (zw_T zwd_250) (zw_T zwd_261) (zw_T zwd_262) ⟨by decide +kernel, by decide +kernel, by decide +kernel⟩ (by decide +kernel : decode (zYf 59).2.1 2 = .ok (.invokestatic 106, 3)))
theorem zf_zm_59_3 (env : List (Nat × Nat)) : zI9 59 zY_59 zm_59 env (5, 6, 9, 0, 0) 8 := zi_if_ne (off := 14) (t := 19) (by decide +kernel : decode zY_59.2.1 5 = .ok (.ifCond .ne 14, 3)) (by decide) (by decide +kernel)
theorem zf_zm_59_4 (env : List (Nat × Nat)) : zI9 59 zY_59 zm_59 env (8, 63, 2, 0, 0) 9 := zi_iload_n (by decide +kernel : decode zY_59.2.1 8 = .ok (.iload_n 2, 1)) rfl
theorem zf_zm_59_5 (env : List (Nat × Nat)) : zI9 59 zY_59 zm_59 env (9, 22, 9, 0, 0) 12 := zi_if_lt (off := 10) (t := 19) (by decide +kernel : decode zY_59.2.1 9 = .ok (.ifCond .lt 10, 3)) (by decide) (by decide +kernel)
theorem zf_zm_59_6 (env : List (Nat × Nat)) : zI9 59 zY_59 zm_59 env (12, 63, 2, 0, 0) 13 := zi_iload_n (by decide +kernel : decode zY_59.2.1 12 = .ok (.iload_n 2, 1)) rfl
theorem zf_zm_59_7 (env : List (Nat × Nat)) : zI9 59 zY_59 zm_59 env (13, 2, 9999, 0, 0) 16 := zi_sipush (by decide +kernel : decode zY_59.2.1 13 = .ok (.sipush 9999, 3)) (by decide +kernel)
theorem zf_zm_59_8 (env : List (Nat × Nat)) : zI9 59 zY_59 zm_59 env (16, 27, 11, 0, 0) 19 := zi_icmp_le (off := 7) (t := 23) (by decide +kernel : decode zY_59.2.1 16 = .ok (.if_icmp .le 7, 3)) (by decide) (by decide +kernel)
theorem zf_zm_59_9 (env : List (Nat × Nat)) : zI9 59 zY_59 zm_59 env (19, 2, 1, 0, 0) 20 := zi_iconst (by decide +kernel : decode zY_59.2.1 19 = .ok (.iconst 1, 1)) (by decide +kernel)
theorem zf_zm_59_10 (env : List (Nat × Nat)) : zI9 59 zY_59 zm_59 env (20, 7, 12, 0, 0) 23 := zi_goto (off := 4) (t := 24) (by decide +kernel : decode zY_59.2.1 20 = .ok (.goto 4, 3)) (by decide) (by decide +kernel)
theorem zf_zm_59_11 (env : List (Nat × Nat)) : zI9 59 zY_59 zm_59 env (23, 2, 0, 0, 0) 24 := zi_iconst (by decide +kernel : decode zY_59.2.1 23 = .ok (.iconst 0, 1)) (by decide +kernel)
theorem zf_zm_59_12 (env : List (Nat × Nat)) : zI9 59 zY_59 zm_59 env (24, 2, 1, 0, 0) 25 := zi_iconst (by decide +kernel : decode zY_59.2.1 24 = .ok (.iconst 1, 1)) (by decide +kernel)
theorem zf_zm_59_13 (env : List (Nat × Nat)) : zC9 59 zm_59 env (25, 66, 44, 195, 3) := zi_call (by decide +kernel) (zr_V (i := 102) (n := 2) (q := ("TransportPairModel", zF_1, 23)) zX_ok rfl (zgood_44) (by decide +kernel) (zw_T zwd_250) (zw_T zwd_259) (zw_T zwd_260) rfl (zw_T (zt_sel (y := ⟨"TransportPairModel","fails","(ZI)Z"⟩) (n := 23) 102 (by decide +kernel))) ⟨by decide +kernel, by decide +kernel, by decide +kernel⟩ rfl (by decide +kernel : decode (zYf 59).2.1 25 = .ok (.invokevirtual 102, 3)))
theorem zf_zm_59_14 (env : List (Nat × Nat)) : zI9 59 zY_59 zm_59 env (28, 6, 21, 0, 0) 31 := zi_if_ne (off := 15) (t := 43) (by decide +kernel : decode zY_59.2.1 28 = .ok (.ifCond .ne 15, 3)) (by decide) (by decide +kernel)
theorem zf_zm_59_15 (env : List (Nat × Nat)) : zI9 59 zY_59 zm_59 env (31, 0, 0, 0, 0) 32 := zi_aload_n (by decide +kernel : decode zY_59.2.1 31 = .ok (.aload_n 0, 1)) rfl
theorem zf_zm_59_16 (env : List (Nat × Nat)) : zI9 59 zY_59 zm_59 env (32, 1, 1, 7, 2) 35 := zi_getf (i := 37) (N := 23) (C := "TransportPairModel") (ref := "TransportPairModel") (T := zF_1) (by decide +kernel : decode zY_59.2.1 32 = .ok (.getfield 37, 3)) rfl zuw_1 (by decide) (zw_T zwd_231) rfl
theorem zf_zm_59_17 (env : List (Nat × Nat)) : zI9 59 zY_59 zm_59 env (35, 63, 1, 0, 0) 36 := zi_iload_n (by decide +kernel : decode zY_59.2.1 35 = .ok (.iload_n 1, 1)) rfl
theorem zf_zm_59_18 (env : List (Nat × Nat)) : zI9 59 zY_59 zm_59 env (36, 19, 0, 0, 0) 37 := zi_aald zft_all (by decide +kernel : decode zY_59.2.1 36 = .ok (.aaload, 1))
theorem zf_zm_59_19 (env : List (Nat × Nat)) : zC9 59 zm_59 env (37, 66, 122, 65, 20) := zi_call (by decide +kernel) (zr_V (i := 163) (n := 0) (q := ("TransportPairModel$Side", zF_18, 53)) zX_ok rfl (zgood_122) (by decide +kernel) (zw_T zwd_228) (zw_T zwd_285) (zw_T zwd_286) rfl (zw_T zwd_287) ⟨by decide +kernel, by decide +kernel, by decide +kernel⟩ rfl (by decide +kernel : decode (zYf 59).2.1 37 = .ok (.invokevirtual 163, 3)))
theorem zf_zm_59_20 (env : List (Nat × Nat)) : zI9 59 zY_59 zm_59 env (40, 6, 23, 0, 0) 43 := zi_if_ne (off := 5) (t := 45) (by decide +kernel : decode zY_59.2.1 40 = .ok (.ifCond .ne 5, 3)) (by decide) (by decide +kernel)
theorem zf_zm_59_21 (env : List (Nat × Nat)) : zI9 59 zY_59 zm_59 env (43, 2, 0, 0, 0) 44 := zi_iconst (by decide +kernel : decode zY_59.2.1 43 = .ok (.iconst 0, 1)) (by decide +kernel)
theorem zf_zm_59_22 (env : List (Nat × Nat)) : zR9 59 env (44, 11, 3, 0, 0) := zi_zret (by decide +kernel : decode (zYf 59).2.1 44 = .ok (.ireturn, 1)) rfl
theorem zf_zm_59_23 (env : List (Nat × Nat)) : zI9 59 zY_59 zm_59 env (45, 99, 0, 0, 0) 0 := zi_none
set_option maxRecDepth 100000 in
theorem zc_zm_59 (env : List (Nat × Nat)) : zcode zX (z_QF zEX zcl zft) (z_zm zEX zX zWL zcl zft zYf) zYf zW zET zcl zft (zGv env) 59 zm_59 zm_59.1 := ⟨Or.inl ⟨1, zf_zm_59_0 env, zpc_c⟩,
  Or.inl ⟨2, zf_zm_59_1 env, zpc_c⟩,
  Or.inr (Or.inr (Or.inl ⟨zf_zm_59_2 env, zpc_c⟩)),
  Or.inl ⟨8, zf_zm_59_3 env, zpc_c⟩,
  Or.inl ⟨9, zf_zm_59_4 env, zpc_c⟩,
  Or.inl ⟨12, zf_zm_59_5 env, zpc_c⟩,
  Or.inl ⟨13, zf_zm_59_6 env, zpc_c⟩,
  Or.inl ⟨16, zf_zm_59_7 env, zpc_c⟩,
  Or.inl ⟨19, zf_zm_59_8 env, zpc_c⟩,
  Or.inl ⟨20, zf_zm_59_9 env, zpc_c⟩,
  Or.inl ⟨23, zf_zm_59_10 env, zpc_c⟩,
  Or.inl ⟨24, zf_zm_59_11 env, zpc_c⟩,
  Or.inl ⟨25, zf_zm_59_12 env, zpc_c⟩,
  Or.inr (Or.inr (Or.inl ⟨zf_zm_59_13 env, zpc_c⟩)),
  Or.inl ⟨31, zf_zm_59_14 env, zpc_c⟩,
  Or.inl ⟨32, zf_zm_59_15 env, zpc_c⟩,
  Or.inl ⟨35, zf_zm_59_16 env, zpc_c⟩,
  Or.inl ⟨36, zf_zm_59_17 env, zpc_c⟩,
  Or.inl ⟨37, zf_zm_59_18 env, zpc_c⟩,
  Or.inr (Or.inr (Or.inl ⟨zf_zm_59_19 env, zpc_c⟩)),
  Or.inl ⟨43, zf_zm_59_20 env, zpc_c⟩,
  Or.inl ⟨44, zf_zm_59_21 env, zpc_c⟩,
  Or.inr (Or.inl (zf_zm_59_22 env)),
  Or.inl ⟨0, zf_zm_59_23 env, zpc_n⟩, trivial⟩
theorem zf_zm_60_0 (env : List (Nat × Nat)) : zI9 60 zY_60 zm_60 env (0, 0, 0, 0, 0) 1 := zi_aload_n (by decide +kernel : decode zY_60.2.1 0 = .ok (.aload_n 0, 1)) rfl
theorem zf_zm_60_1 (env : List (Nat × Nat)) : zI9 60 zY_60 zm_60 env (1, 63, 1, 0, 0) 2 := zi_iload_n (by decide +kernel : decode zY_60.2.1 1 = .ok (.iload_n 1, 1)) rfl
theorem zf_zm_60_2 (env : List (Nat × Nat)) : zC9 60 zm_60 env (2, 66, 45, 65, 0) := zi_call (by decide +kernel) (zr_S (i := 106) zX_ok rfl (zgood_45) (by decide +kernel) (zw_T zwd_250) (zw_T zwd_261) (zw_T zwd_262) ⟨by decide +kernel, by decide +kernel, by decide +kernel⟩ (by decide +kernel : decode (zYf 60).2.1 2 = .ok (.invokestatic 106, 3)))
theorem zf_zm_60_3 (env : List (Nat × Nat)) : zI9 60 zY_60 zm_60 env (5, 6, 9, 0, 0) 8 := zi_if_ne (off := 21) (t := 26) (by decide +kernel : decode zY_60.2.1 5 = .ok (.ifCond .ne 21, 3)) (by decide) (by decide +kernel)
theorem zf_zm_60_4 (env : List (Nat × Nat)) : zI9 60 zY_60 zm_60 env (8, 0, 0, 0, 0) 9 := zi_aload_n (by decide +kernel : decode zY_60.2.1 8 = .ok (.aload_n 0, 1)) rfl
theorem zf_zm_60_5 (env : List (Nat × Nat)) : zI9 60 zY_60 zm_60 env (9, 1, 1, 2, 0) 12 := zi_getf (i := 99) (N := 23) (C := "TransportPairModel") (ref := "TransportPairModel") (T := zF_1) (by decide +kernel : decode zY_60.2.1 9 = .ok (.getfield 99, 3)) rfl zuw_1 (by decide) (zw_T zwd_258) rfl
theorem zf_zm_60_6 (env : List (Nat × Nat)) : zI9 60 zY_60 zm_60 env (12, 2, 1, 0, 0) 13 := zi_iconst (by decide +kernel : decode zY_60.2.1 12 = .ok (.iconst 1, 1)) (by decide +kernel)
theorem zf_zm_60_7 (env : List (Nat × Nat)) : zI9 60 zY_60 zm_60 env (13, 30, 9, 0, 0) 16 := zi_icmp_lt (off := 13) (t := 26) (by decide +kernel : decode zY_60.2.1 13 = .ok (.if_icmp .lt 13, 3)) (by decide) (by decide +kernel)
theorem zf_zm_60_8 (env : List (Nat × Nat)) : zI9 60 zY_60 zm_60 env (16, 99, 0, 0, 0) 26 := zi_none
theorem zf_zm_60_9 (env : List (Nat × Nat)) : zI9 60 zY_60 zm_60 env (26, 2, 1, 0, 0) 27 := zi_iconst (by decide +kernel : decode zY_60.2.1 26 = .ok (.iconst 1, 1)) (by decide +kernel)
theorem zf_zm_60_10 (env : List (Nat × Nat)) : zI9 60 zY_60 zm_60 env (27, 7, 12, 0, 0) 30 := zi_goto (off := 4) (t := 31) (by decide +kernel : decode zY_60.2.1 27 = .ok (.goto 4, 3)) (by decide) (by decide +kernel)
theorem zf_zm_60_11 (env : List (Nat × Nat)) : zI9 60 zY_60 zm_60 env (30, 99, 0, 0, 0) 31 := zi_none
theorem zf_zm_60_12 (env : List (Nat × Nat)) : zI9 60 zY_60 zm_60 env (31, 2, 1, 0, 0) 32 := zi_iconst (by decide +kernel : decode zY_60.2.1 31 = .ok (.iconst 1, 1)) (by decide +kernel)
theorem zf_zm_60_13 (env : List (Nat × Nat)) : zC9 60 zm_60 env (32, 66, 44, 195, 3) := zi_call (by decide +kernel) (zr_V (i := 102) (n := 2) (q := ("TransportPairModel", zF_1, 23)) zX_ok rfl (zgood_44) (by decide +kernel) (zw_T zwd_250) (zw_T zwd_259) (zw_T zwd_260) rfl (zw_T (zt_sel (y := ⟨"TransportPairModel","fails","(ZI)Z"⟩) (n := 23) 102 (by decide +kernel))) ⟨by decide +kernel, by decide +kernel, by decide +kernel⟩ rfl (by decide +kernel : decode (zYf 60).2.1 32 = .ok (.invokevirtual 102, 3)))
theorem zf_zm_60_14 (env : List (Nat × Nat)) : zI9 60 zY_60 zm_60 env (35, 6, 16, 0, 0) 38 := zi_if_ne (off := 29) (t := 64) (by decide +kernel : decode zY_60.2.1 35 = .ok (.ifCond .ne 29, 3)) (by decide) (by decide +kernel)
theorem zf_zm_60_15 (env : List (Nat × Nat)) : zI9 60 zY_60 zm_60 env (38, 99, 0, 0, 0) 64 := zi_none
theorem zf_zm_60_16 (env : List (Nat × Nat)) : zR9 60 env (64, 21, 0, 0, 0) := zi_vret (by decide +kernel : decode (zYf 60).2.1 64 = .ok (.return_, 1)) rfl
theorem zf_zm_60_17 (env : List (Nat × Nat)) : zI9 60 zY_60 zm_60 env (65, 99, 0, 0, 0) 0 := zi_none
set_option maxRecDepth 100000 in
theorem zc_zm_60 (env : List (Nat × Nat)) : zcode zX (z_QF zEX zcl zft) (z_zm zEX zX zWL zcl zft zYf) zYf zW zET zcl zft (zGv env) 60 zm_60 zm_60.1 := ⟨Or.inl ⟨1, zf_zm_60_0 env, zpc_c⟩,
  Or.inl ⟨2, zf_zm_60_1 env, zpc_c⟩,
  Or.inr (Or.inr (Or.inl ⟨zf_zm_60_2 env, zpc_c⟩)),
  Or.inl ⟨8, zf_zm_60_3 env, zpc_c⟩,
  Or.inl ⟨9, zf_zm_60_4 env, zpc_c⟩,
  Or.inl ⟨12, zf_zm_60_5 env, zpc_c⟩,
  Or.inl ⟨13, zf_zm_60_6 env, zpc_c⟩,
  Or.inl ⟨16, zf_zm_60_7 env, zpc_c⟩,
  Or.inl ⟨26, zf_zm_60_8 env, zpc_c⟩,
  Or.inl ⟨27, zf_zm_60_9 env, zpc_c⟩,
  Or.inl ⟨30, zf_zm_60_10 env, zpc_c⟩,
  Or.inl ⟨31, zf_zm_60_11 env, zpc_c⟩,
  Or.inl ⟨32, zf_zm_60_12 env, zpc_c⟩,
  Or.inr (Or.inr (Or.inl ⟨zf_zm_60_13 env, zpc_c⟩)),
  Or.inl ⟨38, zf_zm_60_14 env, zpc_c⟩,
  Or.inl ⟨64, zf_zm_60_15 env, zpc_c⟩,
  Or.inr (Or.inl (zf_zm_60_16 env)),
  Or.inl ⟨0, zf_zm_60_17 env, zpc_n⟩, trivial⟩
theorem zf_zm_61_0 (env : List (Nat × Nat)) : zI9 61 zY_61 zm_61 env (0, 63, 2, 0, 0) 1 := zi_iload_n (by decide +kernel : decode zY_61.2.1 0 = .ok (.iload_n 2, 1)) rfl
theorem zf_zm_61_1 (env : List (Nat × Nat)) : zI9 61 zY_61 zm_61 env (1, 22, 8, 0, 0) 4 := zi_if_lt (off := 13) (t := 14) (by decide +kernel : decode zY_61.2.1 1 = .ok (.ifCond .lt 13, 3)) (by decide) (by decide +kernel)
theorem zf_zm_61_2 (env : List (Nat × Nat)) : zI9 61 zY_61 zm_61 env (4, 63, 2, 0, 0) 5 := zi_iload_n (by decide +kernel : decode zY_61.2.1 4 = .ok (.iload_n 2, 1)) rfl
theorem zf_zm_61_3 (env : List (Nat × Nat)) : zI9 61 zY_61 zm_61 env (5, 0, 0, 0, 0) 6 := zi_aload_n (by decide +kernel : decode zY_61.2.1 5 = .ok (.aload_n 0, 1)) rfl
theorem zf_zm_61_4 (env : List (Nat × Nat)) : zI9 61 zY_61 zm_61 env (6, 1, 1, 10, 2) 9 := zi_getf (i := 41) (N := 23) (C := "TransportPairModel") (ref := "TransportPairModel") (T := zF_1) (by decide +kernel : decode zY_61.2.1 6 = .ok (.getfield 41, 3)) rfl zuw_1 (by decide) (zw_T zwd_232) rfl
theorem zf_zm_61_5 (env : List (Nat × Nat)) : zI9 61 zY_61 zm_61 env (9, 63, 1, 0, 0) 10 := zi_iload_n (by decide +kernel : decode zY_61.2.1 9 = .ok (.iload_n 1, 1)) rfl
theorem zf_zm_61_6 (env : List (Nat × Nat)) : zI9 61 zY_61 zm_61 env (10, 8, 0, 0, 0) 11 := zi_iald (zscr_ok (by decide +kernel : decode zY_61.2.1 10 = .ok (.iaload, 1))) (by decide +kernel : decode zY_61.2.1 10 = .ok (.iaload, 1))
theorem zf_zm_61_7 (env : List (Nat × Nat)) : zI9 61 zY_61 zm_61 env (11, 30, 10, 0, 0) 14 := zi_icmp_lt (off := 7) (t := 18) (by decide +kernel : decode zY_61.2.1 11 = .ok (.if_icmp .lt 7, 3)) (by decide) (by decide +kernel)
theorem zf_zm_61_8 (env : List (Nat × Nat)) : zI9 61 zY_61 zm_61 env (14, 2, 1, 0, 0) 15 := zi_iconst (by decide +kernel : decode zY_61.2.1 14 = .ok (.iconst 1, 1)) (by decide +kernel)
theorem zf_zm_61_9 (env : List (Nat × Nat)) : zI9 61 zY_61 zm_61 env (15, 7, 11, 0, 0) 18 := zi_goto (off := 4) (t := 19) (by decide +kernel : decode zY_61.2.1 15 = .ok (.goto 4, 3)) (by decide) (by decide +kernel)
theorem zf_zm_61_10 (env : List (Nat × Nat)) : zI9 61 zY_61 zm_61 env (18, 99, 0, 0, 0) 19 := zi_none
theorem zf_zm_61_11 (env : List (Nat × Nat)) : zR9 61 env (19, 11, 3, 0, 0) := zi_zret (by decide +kernel : decode (zYf 61).2.1 19 = .ok (.ireturn, 1)) rfl
set_option maxRecDepth 100000 in
theorem zc_zm_61 (env : List (Nat × Nat)) : zcode zX (z_QF zEX zcl zft) (z_zm zEX zX zWL zcl zft zYf) zYf zW zET zcl zft (zGv env) 61 zm_61 zm_61.1 := ⟨Or.inl ⟨1, zf_zm_61_0 env, zpc_c⟩,
  Or.inl ⟨4, zf_zm_61_1 env, zpc_c⟩,
  Or.inl ⟨5, zf_zm_61_2 env, zpc_c⟩,
  Or.inl ⟨6, zf_zm_61_3 env, zpc_c⟩,
  Or.inl ⟨9, zf_zm_61_4 env, zpc_c⟩,
  Or.inl ⟨10, zf_zm_61_5 env, zpc_c⟩,
  Or.inl ⟨11, zf_zm_61_6 env, zpc_c⟩,
  Or.inl ⟨14, zf_zm_61_7 env, zpc_c⟩,
  Or.inl ⟨15, zf_zm_61_8 env, zpc_c⟩,
  Or.inl ⟨18, zf_zm_61_9 env, zpc_c⟩,
  Or.inl ⟨19, zf_zm_61_10 env, zpc_c⟩,
  Or.inr (Or.inl (zf_zm_61_11 env)), trivial⟩
theorem zf_zm_62_0 (env : List (Nat × Nat)) : zI9 62 zY_62 zm_62 env (0, 0, 0, 0, 0) 1 := zi_aload_n (by decide +kernel : decode zY_62.2.1 0 = .ok (.aload_n 0, 1)) rfl
theorem zf_zm_62_1 (env : List (Nat × Nat)) : zI9 62 zY_62 zm_62 env (1, 63, 1, 0, 0) 2 := zi_iload_n (by decide +kernel : decode zY_62.2.1 1 = .ok (.iload_n 1, 1)) rfl
theorem zf_zm_62_2 (env : List (Nat × Nat)) : zC9 62 zm_62 env (2, 66, 45, 65, 0) := zi_call (by decide +kernel) (zr_S (i := 106) zX_ok rfl (zgood_45) (by decide +kernel) (zw_T zwd_250) (zw_T zwd_261) (zw_T zwd_262) ⟨by decide +kernel, by decide +kernel, by decide +kernel⟩ (by decide +kernel : decode (zYf 62).2.1 2 = .ok (.invokestatic 106, 3)))
theorem zf_zm_62_3 (env : List (Nat × Nat)) : zI9 62 zY_62 zm_62 env (5, 2, 1, 0, 0) 6 := zi_iconst (by decide +kernel : decode zY_62.2.1 5 = .ok (.iconst 1, 1)) (by decide +kernel)
theorem zf_zm_62_4 (env : List (Nat × Nat)) : zC9 62 zm_62 env (6, 66, 44, 195, 3) := zi_call (by decide +kernel) (zr_V (i := 102) (n := 2) (q := ("TransportPairModel", zF_1, 23)) zX_ok rfl (zgood_44) (by decide +kernel) (zw_T zwd_250) (zw_T zwd_259) (zw_T zwd_260) rfl (zw_T (zt_sel (y := ⟨"TransportPairModel","fails","(ZI)Z"⟩) (n := 23) 102 (by decide +kernel))) ⟨by decide +kernel, by decide +kernel, by decide +kernel⟩ rfl (by decide +kernel : decode (zYf 62).2.1 6 = .ok (.invokevirtual 102, 3)))
theorem zf_zm_62_5 (env : List (Nat × Nat)) : zI9 62 zY_62 zm_62 env (9, 6, 14, 0, 0) 12 := zi_if_ne (off := 17) (t := 26) (by decide +kernel : decode zY_62.2.1 9 = .ok (.ifCond .ne 17, 3)) (by decide) (by decide +kernel)
theorem zf_zm_62_6 (env : List (Nat × Nat)) : zI9 62 zY_62 zm_62 env (12, 0, 0, 0, 0) 13 := zi_aload_n (by decide +kernel : decode zY_62.2.1 12 = .ok (.aload_n 0, 1)) rfl
theorem zf_zm_62_7 (env : List (Nat × Nat)) : zI9 62 zY_62 zm_62 env (13, 0, 0, 0, 0) 14 := zi_aload_n (by decide +kernel : decode zY_62.2.1 13 = .ok (.aload_n 0, 1)) rfl
theorem zf_zm_62_8 (env : List (Nat × Nat)) : zI9 62 zY_62 zm_62 env (14, 63, 1, 0, 0) 15 := zi_iload_n (by decide +kernel : decode zY_62.2.1 14 = .ok (.iload_n 1, 1)) rfl
theorem zf_zm_62_9 (env : List (Nat × Nat)) : zI9 62 zY_62 zm_62 env (15, 63, 2, 0, 0) 16 := zi_iload_n (by decide +kernel : decode zY_62.2.1 15 = .ok (.iload_n 2, 1)) rfl
theorem zf_zm_62_10 (env : List (Nat × Nat)) : zC9 62 zm_62 env (16, 66, 61, 195, 3) := zi_call (by decide +kernel) (zr_V (i := 181) (n := 2) (q := ("TransportPairModel", zF_1, 23)) zX_ok rfl (zgood_61) (by decide +kernel) (zw_T zwd_250) (zw_T zwd_288) (zw_T zwd_289) rfl (zw_T (zt_sel (y := ⟨"TransportPairModel","isNone","(II)Z"⟩) (n := 23) 127 (by decide +kernel))) ⟨by decide +kernel, by decide +kernel, by decide +kernel⟩ rfl (by decide +kernel : decode (zYf 62).2.1 16 = .ok (.invokevirtual 181, 3)))
theorem zf_zm_62_11 (env : List (Nat × Nat)) : zI9 62 zY_62 zm_62 env (19, 2, 2, 0, 0) 20 := zi_iconst (by decide +kernel : decode zY_62.2.1 19 = .ok (.iconst 2, 1)) (by decide +kernel)
theorem zf_zm_62_12 (env : List (Nat × Nat)) : zC9 62 zm_62 env (20, 66, 44, 195, 3) := zi_call (by decide +kernel) (zr_V (i := 102) (n := 2) (q := ("TransportPairModel", zF_1, 23)) zX_ok rfl (zgood_44) (by decide +kernel) (zw_T zwd_250) (zw_T zwd_259) (zw_T zwd_260) rfl (zw_T (zt_sel (y := ⟨"TransportPairModel","fails","(ZI)Z"⟩) (n := 23) 102 (by decide +kernel))) ⟨by decide +kernel, by decide +kernel, by decide +kernel⟩ rfl (by decide +kernel : decode (zYf 62).2.1 20 = .ok (.invokevirtual 102, 3)))
theorem zf_zm_62_13 (env : List (Nat × Nat)) : zI9 62 zY_62 zm_62 env (23, 5, 16, 0, 0) 26 := zi_if_eq (off := 5) (t := 28) (by decide +kernel : decode zY_62.2.1 23 = .ok (.ifCond .eq 5, 3)) (by decide) (by decide +kernel)
theorem zf_zm_62_14 (env : List (Nat × Nat)) : zI9 62 zY_62 zm_62 env (26, 2, 0, 0, 0) 27 := zi_iconst (by decide +kernel : decode zY_62.2.1 26 = .ok (.iconst 0, 1)) (by decide +kernel)
theorem zf_zm_62_15 (env : List (Nat × Nat)) : zR9 62 env (27, 11, 0, 0, 0) := zi_iret (by decide +kernel : decode (zYf 62).2.1 27 = .ok (.ireturn, 1)) rfl
theorem zf_zm_62_16 (env : List (Nat × Nat)) : zI9 62 zY_62 zm_62 env (28, 99, 0, 0, 0) 0 := zi_none
set_option maxRecDepth 100000 in
theorem zc_zm_62 (env : List (Nat × Nat)) : zcode zX (z_QF zEX zcl zft) (z_zm zEX zX zWL zcl zft zYf) zYf zW zET zcl zft (zGv env) 62 zm_62 zm_62.1 := ⟨Or.inl ⟨1, zf_zm_62_0 env, zpc_c⟩,
  Or.inl ⟨2, zf_zm_62_1 env, zpc_c⟩,
  Or.inr (Or.inr (Or.inl ⟨zf_zm_62_2 env, zpc_c⟩)),
  Or.inl ⟨6, zf_zm_62_3 env, zpc_c⟩,
  Or.inr (Or.inr (Or.inl ⟨zf_zm_62_4 env, zpc_c⟩)),
  Or.inl ⟨12, zf_zm_62_5 env, zpc_c⟩,
  Or.inl ⟨13, zf_zm_62_6 env, zpc_c⟩,
  Or.inl ⟨14, zf_zm_62_7 env, zpc_c⟩,
  Or.inl ⟨15, zf_zm_62_8 env, zpc_c⟩,
  Or.inl ⟨16, zf_zm_62_9 env, zpc_c⟩,
  Or.inr (Or.inr (Or.inl ⟨zf_zm_62_10 env, zpc_c⟩)),
  Or.inl ⟨20, zf_zm_62_11 env, zpc_c⟩,
  Or.inr (Or.inr (Or.inl ⟨zf_zm_62_12 env, zpc_c⟩)),
  Or.inl ⟨26, zf_zm_62_13 env, zpc_c⟩,
  Or.inl ⟨27, zf_zm_62_14 env, zpc_c⟩,
  Or.inr (Or.inl (zf_zm_62_15 env)),
  Or.inl ⟨0, zf_zm_62_16 env, zpc_n⟩, trivial⟩
theorem zf_zm_63_0 (env : List (Nat × Nat)) : zI9 63 zY_63 zm_63 env (0, 0, 0, 0, 0) 1 := zi_aload_n (by decide +kernel : decode zY_63.2.1 0 = .ok (.aload_n 0, 1)) rfl
theorem zf_zm_63_1 (env : List (Nat × Nat)) : zI9 63 zY_63 zm_63 env (1, 63, 1, 0, 0) 2 := zi_iload_n (by decide +kernel : decode zY_63.2.1 1 = .ok (.iload_n 1, 1)) rfl
theorem zf_zm_63_2 (env : List (Nat × Nat)) : zC9 63 zm_63 env (2, 66, 45, 65, 0) := zi_call (by decide +kernel) (zr_S (i := 106) zX_ok rfl (zgood_45) (by decide +kernel) (zw_T zwd_250) (zw_T zwd_261) (zw_T zwd_262) ⟨by decide +kernel, by decide +kernel, by decide +kernel⟩ (by decide +kernel : decode (zYf 63).2.1 2 = .ok (.invokestatic 106, 3)))
theorem zf_zm_63_3 (env : List (Nat × Nat)) : zI9 63 zY_63 zm_63 env (5, 2, 1, 0, 0) 6 := zi_iconst (by decide +kernel : decode zY_63.2.1 5 = .ok (.iconst 1, 1)) (by decide +kernel)
theorem zf_zm_63_4 (env : List (Nat × Nat)) : zC9 63 zm_63 env (6, 66, 44, 195, 3) := zi_call (by decide +kernel) (zr_V (i := 102) (n := 2) (q := ("TransportPairModel", zF_1, 23)) zX_ok rfl (zgood_44) (by decide +kernel) (zw_T zwd_250) (zw_T zwd_259) (zw_T zwd_260) rfl (zw_T (zt_sel (y := ⟨"TransportPairModel","fails","(ZI)Z"⟩) (n := 23) 102 (by decide +kernel))) ⟨by decide +kernel, by decide +kernel, by decide +kernel⟩ rfl (by decide +kernel : decode (zYf 63).2.1 6 = .ok (.invokevirtual 102, 3)))
theorem zf_zm_63_5 (env : List (Nat × Nat)) : zI9 63 zY_63 zm_63 env (9, 6, 14, 0, 0) 12 := zi_if_ne (off := 17) (t := 26) (by decide +kernel : decode zY_63.2.1 9 = .ok (.ifCond .ne 17, 3)) (by decide) (by decide +kernel)
theorem zf_zm_63_6 (env : List (Nat × Nat)) : zI9 63 zY_63 zm_63 env (12, 0, 0, 0, 0) 13 := zi_aload_n (by decide +kernel : decode zY_63.2.1 12 = .ok (.aload_n 0, 1)) rfl
theorem zf_zm_63_7 (env : List (Nat × Nat)) : zI9 63 zY_63 zm_63 env (13, 0, 0, 0, 0) 14 := zi_aload_n (by decide +kernel : decode zY_63.2.1 13 = .ok (.aload_n 0, 1)) rfl
theorem zf_zm_63_8 (env : List (Nat × Nat)) : zI9 63 zY_63 zm_63 env (14, 63, 1, 0, 0) 15 := zi_iload_n (by decide +kernel : decode zY_63.2.1 14 = .ok (.iload_n 1, 1)) rfl
theorem zf_zm_63_9 (env : List (Nat × Nat)) : zI9 63 zY_63 zm_63 env (15, 63, 2, 0, 0) 16 := zi_iload_n (by decide +kernel : decode zY_63.2.1 15 = .ok (.iload_n 2, 1)) rfl
theorem zf_zm_63_10 (env : List (Nat × Nat)) : zC9 63 zm_63 env (16, 66, 61, 195, 3) := zi_call (by decide +kernel) (zr_V (i := 181) (n := 2) (q := ("TransportPairModel", zF_1, 23)) zX_ok rfl (zgood_61) (by decide +kernel) (zw_T zwd_250) (zw_T zwd_288) (zw_T zwd_289) rfl (zw_T (zt_sel (y := ⟨"TransportPairModel","isNone","(II)Z"⟩) (n := 23) 127 (by decide +kernel))) ⟨by decide +kernel, by decide +kernel, by decide +kernel⟩ rfl (by decide +kernel : decode (zYf 63).2.1 16 = .ok (.invokevirtual 181, 3)))
theorem zf_zm_63_11 (env : List (Nat × Nat)) : zI9 63 zY_63 zm_63 env (19, 2, 2, 0, 0) 20 := zi_iconst (by decide +kernel : decode zY_63.2.1 19 = .ok (.iconst 2, 1)) (by decide +kernel)
theorem zf_zm_63_12 (env : List (Nat × Nat)) : zC9 63 zm_63 env (20, 66, 44, 195, 3) := zi_call (by decide +kernel) (zr_V (i := 102) (n := 2) (q := ("TransportPairModel", zF_1, 23)) zX_ok rfl (zgood_44) (by decide +kernel) (zw_T zwd_250) (zw_T zwd_259) (zw_T zwd_260) rfl (zw_T (zt_sel (y := ⟨"TransportPairModel","fails","(ZI)Z"⟩) (n := 23) 102 (by decide +kernel))) ⟨by decide +kernel, by decide +kernel, by decide +kernel⟩ rfl (by decide +kernel : decode (zYf 63).2.1 20 = .ok (.invokevirtual 102, 3)))
theorem zf_zm_63_13 (env : List (Nat × Nat)) : zI9 63 zY_63 zm_63 env (23, 5, 16, 0, 0) 26 := zi_if_eq (off := 5) (t := 28) (by decide +kernel : decode zY_63.2.1 23 = .ok (.ifCond .eq 5, 3)) (by decide) (by decide +kernel)
theorem zf_zm_63_14 (env : List (Nat × Nat)) : zI9 63 zY_63 zm_63 env (26, 2, 0, 0, 0) 27 := zi_iconst (by decide +kernel : decode zY_63.2.1 26 = .ok (.iconst 0, 1)) (by decide +kernel)
theorem zf_zm_63_15 (env : List (Nat × Nat)) : zR9 63 env (27, 11, 0, 0, 0) := zi_iret (by decide +kernel : decode (zYf 63).2.1 27 = .ok (.ireturn, 1)) rfl
theorem zf_zm_63_16 (env : List (Nat × Nat)) : zI9 63 zY_63 zm_63 env (28, 99, 0, 0, 0) 0 := zi_none
set_option maxRecDepth 100000 in
theorem zc_zm_63 (env : List (Nat × Nat)) : zcode zX (z_QF zEX zcl zft) (z_zm zEX zX zWL zcl zft zYf) zYf zW zET zcl zft (zGv env) 63 zm_63 zm_63.1 := ⟨Or.inl ⟨1, zf_zm_63_0 env, zpc_c⟩,
  Or.inl ⟨2, zf_zm_63_1 env, zpc_c⟩,
  Or.inr (Or.inr (Or.inl ⟨zf_zm_63_2 env, zpc_c⟩)),
  Or.inl ⟨6, zf_zm_63_3 env, zpc_c⟩,
  Or.inr (Or.inr (Or.inl ⟨zf_zm_63_4 env, zpc_c⟩)),
  Or.inl ⟨12, zf_zm_63_5 env, zpc_c⟩,
  Or.inl ⟨13, zf_zm_63_6 env, zpc_c⟩,
  Or.inl ⟨14, zf_zm_63_7 env, zpc_c⟩,
  Or.inl ⟨15, zf_zm_63_8 env, zpc_c⟩,
  Or.inl ⟨16, zf_zm_63_9 env, zpc_c⟩,
  Or.inr (Or.inr (Or.inl ⟨zf_zm_63_10 env, zpc_c⟩)),
  Or.inl ⟨20, zf_zm_63_11 env, zpc_c⟩,
  Or.inr (Or.inr (Or.inl ⟨zf_zm_63_12 env, zpc_c⟩)),
  Or.inl ⟨26, zf_zm_63_13 env, zpc_c⟩,
  Or.inl ⟨27, zf_zm_63_14 env, zpc_c⟩,
  Or.inr (Or.inl (zf_zm_63_15 env)),
  Or.inl ⟨0, zf_zm_63_16 env, zpc_n⟩, trivial⟩
theorem zf_zm_64_0 (env : List (Nat × Nat)) : zI9 64 zY_64 zm_64 env (0, 0, 0, 0, 0) 1 := zi_aload_n (by decide +kernel : decode zY_64.2.1 0 = .ok (.aload_n 0, 1)) rfl
theorem zf_zm_64_1 (env : List (Nat × Nat)) : zI9 64 zY_64 zm_64 env (1, 63, 1, 0, 0) 2 := zi_iload_n (by decide +kernel : decode zY_64.2.1 1 = .ok (.iload_n 1, 1)) rfl
theorem zf_zm_64_2 (env : List (Nat × Nat)) : zC9 64 zm_64 env (2, 66, 45, 65, 0) := zi_call (by decide +kernel) (zr_S (i := 106) zX_ok rfl (zgood_45) (by decide +kernel) (zw_T zwd_250) (zw_T zwd_261) (zw_T zwd_262) ⟨by decide +kernel, by decide +kernel, by decide +kernel⟩ (by decide +kernel : decode (zYf 64).2.1 2 = .ok (.invokestatic 106, 3)))
theorem zf_zm_64_3 (env : List (Nat × Nat)) : zI9 64 zY_64 zm_64 env (5, 2, 1, 0, 0) 6 := zi_iconst (by decide +kernel : decode zY_64.2.1 5 = .ok (.iconst 1, 1)) (by decide +kernel)
theorem zf_zm_64_4 (env : List (Nat × Nat)) : zC9 64 zm_64 env (6, 66, 44, 195, 3) := zi_call (by decide +kernel) (zr_V (i := 102) (n := 2) (q := ("TransportPairModel", zF_1, 23)) zX_ok rfl (zgood_44) (by decide +kernel) (zw_T zwd_250) (zw_T zwd_259) (zw_T zwd_260) rfl (zw_T (zt_sel (y := ⟨"TransportPairModel","fails","(ZI)Z"⟩) (n := 23) 102 (by decide +kernel))) ⟨by decide +kernel, by decide +kernel, by decide +kernel⟩ rfl (by decide +kernel : decode (zYf 64).2.1 6 = .ok (.invokevirtual 102, 3)))
theorem zf_zm_64_5 (env : List (Nat × Nat)) : zI9 64 zY_64 zm_64 env (9, 6, 14, 0, 0) 12 := zi_if_ne (off := 17) (t := 26) (by decide +kernel : decode zY_64.2.1 9 = .ok (.ifCond .ne 17, 3)) (by decide) (by decide +kernel)
theorem zf_zm_64_6 (env : List (Nat × Nat)) : zI9 64 zY_64 zm_64 env (12, 0, 0, 0, 0) 13 := zi_aload_n (by decide +kernel : decode zY_64.2.1 12 = .ok (.aload_n 0, 1)) rfl
theorem zf_zm_64_7 (env : List (Nat × Nat)) : zI9 64 zY_64 zm_64 env (13, 0, 0, 0, 0) 14 := zi_aload_n (by decide +kernel : decode zY_64.2.1 13 = .ok (.aload_n 0, 1)) rfl
theorem zf_zm_64_8 (env : List (Nat × Nat)) : zI9 64 zY_64 zm_64 env (14, 63, 1, 0, 0) 15 := zi_iload_n (by decide +kernel : decode zY_64.2.1 14 = .ok (.iload_n 1, 1)) rfl
theorem zf_zm_64_9 (env : List (Nat × Nat)) : zI9 64 zY_64 zm_64 env (15, 63, 2, 0, 0) 16 := zi_iload_n (by decide +kernel : decode zY_64.2.1 15 = .ok (.iload_n 2, 1)) rfl
theorem zf_zm_64_10 (env : List (Nat × Nat)) : zC9 64 zm_64 env (16, 66, 61, 195, 3) := zi_call (by decide +kernel) (zr_V (i := 181) (n := 2) (q := ("TransportPairModel", zF_1, 23)) zX_ok rfl (zgood_61) (by decide +kernel) (zw_T zwd_250) (zw_T zwd_288) (zw_T zwd_289) rfl (zw_T (zt_sel (y := ⟨"TransportPairModel","isNone","(II)Z"⟩) (n := 23) 127 (by decide +kernel))) ⟨by decide +kernel, by decide +kernel, by decide +kernel⟩ rfl (by decide +kernel : decode (zYf 64).2.1 16 = .ok (.invokevirtual 181, 3)))
theorem zf_zm_64_11 (env : List (Nat × Nat)) : zI9 64 zY_64 zm_64 env (19, 2, 2, 0, 0) 20 := zi_iconst (by decide +kernel : decode zY_64.2.1 19 = .ok (.iconst 2, 1)) (by decide +kernel)
theorem zf_zm_64_12 (env : List (Nat × Nat)) : zC9 64 zm_64 env (20, 66, 44, 195, 3) := zi_call (by decide +kernel) (zr_V (i := 102) (n := 2) (q := ("TransportPairModel", zF_1, 23)) zX_ok rfl (zgood_44) (by decide +kernel) (zw_T zwd_250) (zw_T zwd_259) (zw_T zwd_260) rfl (zw_T (zt_sel (y := ⟨"TransportPairModel","fails","(ZI)Z"⟩) (n := 23) 102 (by decide +kernel))) ⟨by decide +kernel, by decide +kernel, by decide +kernel⟩ rfl (by decide +kernel : decode (zYf 64).2.1 20 = .ok (.invokevirtual 102, 3)))
theorem zf_zm_64_13 (env : List (Nat × Nat)) : zI9 64 zY_64 zm_64 env (23, 5, 16, 0, 0) 26 := zi_if_eq (off := 5) (t := 28) (by decide +kernel : decode zY_64.2.1 23 = .ok (.ifCond .eq 5, 3)) (by decide) (by decide +kernel)
theorem zf_zm_64_14 (env : List (Nat × Nat)) : zI9 64 zY_64 zm_64 env (26, 2, 0, 0, 0) 27 := zi_iconst (by decide +kernel : decode zY_64.2.1 26 = .ok (.iconst 0, 1)) (by decide +kernel)
theorem zf_zm_64_15 (env : List (Nat × Nat)) : zR9 64 env (27, 11, 0, 0, 0) := zi_iret (by decide +kernel : decode (zYf 64).2.1 27 = .ok (.ireturn, 1)) rfl
theorem zf_zm_64_16 (env : List (Nat × Nat)) : zI9 64 zY_64 zm_64 env (28, 99, 0, 0, 0) 0 := zi_none
set_option maxRecDepth 100000 in
theorem zc_zm_64 (env : List (Nat × Nat)) : zcode zX (z_QF zEX zcl zft) (z_zm zEX zX zWL zcl zft zYf) zYf zW zET zcl zft (zGv env) 64 zm_64 zm_64.1 := ⟨Or.inl ⟨1, zf_zm_64_0 env, zpc_c⟩,
  Or.inl ⟨2, zf_zm_64_1 env, zpc_c⟩,
  Or.inr (Or.inr (Or.inl ⟨zf_zm_64_2 env, zpc_c⟩)),
  Or.inl ⟨6, zf_zm_64_3 env, zpc_c⟩,
  Or.inr (Or.inr (Or.inl ⟨zf_zm_64_4 env, zpc_c⟩)),
  Or.inl ⟨12, zf_zm_64_5 env, zpc_c⟩,
  Or.inl ⟨13, zf_zm_64_6 env, zpc_c⟩,
  Or.inl ⟨14, zf_zm_64_7 env, zpc_c⟩,
  Or.inl ⟨15, zf_zm_64_8 env, zpc_c⟩,
  Or.inl ⟨16, zf_zm_64_9 env, zpc_c⟩,
  Or.inr (Or.inr (Or.inl ⟨zf_zm_64_10 env, zpc_c⟩)),
  Or.inl ⟨20, zf_zm_64_11 env, zpc_c⟩,
  Or.inr (Or.inr (Or.inl ⟨zf_zm_64_12 env, zpc_c⟩)),
  Or.inl ⟨26, zf_zm_64_13 env, zpc_c⟩,
  Or.inl ⟨27, zf_zm_64_14 env, zpc_c⟩,
  Or.inr (Or.inl (zf_zm_64_15 env)),
  Or.inl ⟨0, zf_zm_64_16 env, zpc_n⟩, trivial⟩
theorem zf_zm_65_0 (env : List (Nat × Nat)) : zI9 65 zY_65 zm_65 env (0, 0, 0, 0, 0) 1 := zi_aload_n (by decide +kernel : decode zY_65.2.1 0 = .ok (.aload_n 0, 1)) rfl
theorem zf_zm_65_1 (env : List (Nat × Nat)) : zI9 65 zY_65 zm_65 env (1, 63, 1, 0, 0) 2 := zi_iload_n (by decide +kernel : decode zY_65.2.1 1 = .ok (.iload_n 1, 1)) rfl
theorem zf_zm_65_2 (env : List (Nat × Nat)) : zC9 65 zm_65 env (2, 66, 45, 65, 0) := zi_call (by decide +kernel) (zr_S (i := 106) zX_ok rfl (zgood_45) (by decide +kernel) (zw_T zwd_250) (zw_T zwd_261) (zw_T zwd_262) ⟨by decide +kernel, by decide +kernel, by decide +kernel⟩ (by decide +kernel : decode (zYf 65).2.1 2 = .ok (.invokestatic 106, 3)))
theorem zf_zm_65_3 (env : List (Nat × Nat)) : zI9 65 zY_65 zm_65 env (5, 2, 1, 0, 0) 6 := zi_iconst (by decide +kernel : decode zY_65.2.1 5 = .ok (.iconst 1, 1)) (by decide +kernel)
theorem zf_zm_65_4 (env : List (Nat × Nat)) : zC9 65 zm_65 env (6, 66, 44, 195, 3) := zi_call (by decide +kernel) (zr_V (i := 102) (n := 2) (q := ("TransportPairModel", zF_1, 23)) zX_ok rfl (zgood_44) (by decide +kernel) (zw_T zwd_250) (zw_T zwd_259) (zw_T zwd_260) rfl (zw_T (zt_sel (y := ⟨"TransportPairModel","fails","(ZI)Z"⟩) (n := 23) 102 (by decide +kernel))) ⟨by decide +kernel, by decide +kernel, by decide +kernel⟩ rfl (by decide +kernel : decode (zYf 65).2.1 6 = .ok (.invokevirtual 102, 3)))
theorem zf_zm_65_5 (env : List (Nat × Nat)) : zI9 65 zY_65 zm_65 env (9, 6, 19, 0, 0) 12 := zi_if_ne (off := 44) (t := 53) (by decide +kernel : decode zY_65.2.1 9 = .ok (.ifCond .ne 44, 3)) (by decide) (by decide +kernel)
theorem zf_zm_65_6 (env : List (Nat × Nat)) : zI9 65 zY_65 zm_65 env (12, 0, 0, 0, 0) 13 := zi_aload_n (by decide +kernel : decode zY_65.2.1 12 = .ok (.aload_n 0, 1)) rfl
theorem zf_zm_65_7 (env : List (Nat × Nat)) : zI9 65 zY_65 zm_65 env (13, 0, 0, 0, 0) 14 := zi_aload_n (by decide +kernel : decode zY_65.2.1 13 = .ok (.aload_n 0, 1)) rfl
theorem zf_zm_65_8 (env : List (Nat × Nat)) : zI9 65 zY_65 zm_65 env (14, 63, 1, 0, 0) 15 := zi_iload_n (by decide +kernel : decode zY_65.2.1 14 = .ok (.iload_n 1, 1)) rfl
theorem zf_zm_65_9 (env : List (Nat × Nat)) : zI9 65 zY_65 zm_65 env (15, 63, 2, 0, 0) 16 := zi_iload_n (by decide +kernel : decode zY_65.2.1 15 = .ok (.iload_n 2, 1)) rfl
theorem zf_zm_65_10 (env : List (Nat × Nat)) : zC9 65 zm_65 env (16, 66, 61, 195, 3) := zi_call (by decide +kernel) (zr_V (i := 181) (n := 2) (q := ("TransportPairModel", zF_1, 23)) zX_ok rfl (zgood_61) (by decide +kernel) (zw_T zwd_250) (zw_T zwd_288) (zw_T zwd_289) rfl (zw_T (zt_sel (y := ⟨"TransportPairModel","isNone","(II)Z"⟩) (n := 23) 127 (by decide +kernel))) ⟨by decide +kernel, by decide +kernel, by decide +kernel⟩ rfl (by decide +kernel : decode (zYf 65).2.1 16 = .ok (.invokevirtual 181, 3)))
theorem zf_zm_65_11 (env : List (Nat × Nat)) : zI9 65 zY_65 zm_65 env (19, 6, 13, 0, 0) 22 := zi_if_ne (off := 22) (t := 41) (by decide +kernel : decode zY_65.2.1 19 = .ok (.ifCond .ne 22, 3)) (by decide) (by decide +kernel)
theorem zf_zm_65_12 (env : List (Nat × Nat)) : zI9 65 zY_65 zm_65 env (22, 99, 0, 0, 0) 41 := zi_none
theorem zf_zm_65_13 (env : List (Nat × Nat)) : zI9 65 zY_65 zm_65 env (41, 2, 1, 0, 0) 42 := zi_iconst (by decide +kernel : decode zY_65.2.1 41 = .ok (.iconst 1, 1)) (by decide +kernel)
theorem zf_zm_65_14 (env : List (Nat × Nat)) : zI9 65 zY_65 zm_65 env (42, 7, 16, 0, 0) 45 := zi_goto (off := 4) (t := 46) (by decide +kernel : decode zY_65.2.1 42 = .ok (.goto 4, 3)) (by decide) (by decide +kernel)
theorem zf_zm_65_15 (env : List (Nat × Nat)) : zI9 65 zY_65 zm_65 env (45, 99, 0, 0, 0) 46 := zi_none
theorem zf_zm_65_16 (env : List (Nat × Nat)) : zI9 65 zY_65 zm_65 env (46, 2, 2, 0, 0) 47 := zi_iconst (by decide +kernel : decode zY_65.2.1 46 = .ok (.iconst 2, 1)) (by decide +kernel)
theorem zf_zm_65_17 (env : List (Nat × Nat)) : zC9 65 zm_65 env (47, 66, 44, 195, 3) := zi_call (by decide +kernel) (zr_V (i := 102) (n := 2) (q := ("TransportPairModel", zF_1, 23)) zX_ok rfl (zgood_44) (by decide +kernel) (zw_T zwd_250) (zw_T zwd_259) (zw_T zwd_260) rfl (zw_T (zt_sel (y := ⟨"TransportPairModel","fails","(ZI)Z"⟩) (n := 23) 102 (by decide +kernel))) ⟨by decide +kernel, by decide +kernel, by decide +kernel⟩ rfl (by decide +kernel : decode (zYf 65).2.1 47 = .ok (.invokevirtual 102, 3)))
theorem zf_zm_65_18 (env : List (Nat × Nat)) : zI9 65 zY_65 zm_65 env (50, 5, 21, 0, 0) 53 := zi_if_eq (off := 5) (t := 55) (by decide +kernel : decode zY_65.2.1 50 = .ok (.ifCond .eq 5, 3)) (by decide) (by decide +kernel)
theorem zf_zm_65_19 (env : List (Nat × Nat)) : zI9 65 zY_65 zm_65 env (53, 2, 0, 0, 0) 54 := zi_iconst (by decide +kernel : decode zY_65.2.1 53 = .ok (.iconst 0, 1)) (by decide +kernel)
theorem zf_zm_65_20 (env : List (Nat × Nat)) : zR9 65 env (54, 11, 0, 0, 0) := zi_iret (by decide +kernel : decode (zYf 65).2.1 54 = .ok (.ireturn, 1)) rfl
theorem zf_zm_65_21 (env : List (Nat × Nat)) : zI9 65 zY_65 zm_65 env (55, 99, 0, 0, 0) 0 := zi_none
set_option maxRecDepth 100000 in
theorem zc_zm_65 (env : List (Nat × Nat)) : zcode zX (z_QF zEX zcl zft) (z_zm zEX zX zWL zcl zft zYf) zYf zW zET zcl zft (zGv env) 65 zm_65 zm_65.1 := ⟨Or.inl ⟨1, zf_zm_65_0 env, zpc_c⟩,
  Or.inl ⟨2, zf_zm_65_1 env, zpc_c⟩,
  Or.inr (Or.inr (Or.inl ⟨zf_zm_65_2 env, zpc_c⟩)),
  Or.inl ⟨6, zf_zm_65_3 env, zpc_c⟩,
  Or.inr (Or.inr (Or.inl ⟨zf_zm_65_4 env, zpc_c⟩)),
  Or.inl ⟨12, zf_zm_65_5 env, zpc_c⟩,
  Or.inl ⟨13, zf_zm_65_6 env, zpc_c⟩,
  Or.inl ⟨14, zf_zm_65_7 env, zpc_c⟩,
  Or.inl ⟨15, zf_zm_65_8 env, zpc_c⟩,
  Or.inl ⟨16, zf_zm_65_9 env, zpc_c⟩,
  Or.inr (Or.inr (Or.inl ⟨zf_zm_65_10 env, zpc_c⟩)),
  Or.inl ⟨22, zf_zm_65_11 env, zpc_c⟩,
  Or.inl ⟨41, zf_zm_65_12 env, zpc_c⟩,
  Or.inl ⟨42, zf_zm_65_13 env, zpc_c⟩,
  Or.inl ⟨45, zf_zm_65_14 env, zpc_c⟩,
  Or.inl ⟨46, zf_zm_65_15 env, zpc_c⟩,
  Or.inl ⟨47, zf_zm_65_16 env, zpc_c⟩,
  Or.inr (Or.inr (Or.inl ⟨zf_zm_65_17 env, zpc_c⟩)),
  Or.inl ⟨53, zf_zm_65_18 env, zpc_c⟩,
  Or.inl ⟨54, zf_zm_65_19 env, zpc_c⟩,
  Or.inr (Or.inl (zf_zm_65_20 env)),
  Or.inl ⟨0, zf_zm_65_21 env, zpc_n⟩, trivial⟩
theorem zf_zm_66_0 (env : List (Nat × Nat)) : zI9 66 zY_66 zm_66 env (0, 0, 0, 0, 0) 1 := zi_aload_n (by decide +kernel : decode zY_66.2.1 0 = .ok (.aload_n 0, 1)) rfl
theorem zf_zm_66_1 (env : List (Nat × Nat)) : zI9 66 zY_66 zm_66 env (1, 63, 1, 0, 0) 2 := zi_iload_n (by decide +kernel : decode zY_66.2.1 1 = .ok (.iload_n 1, 1)) rfl
theorem zf_zm_66_2 (env : List (Nat × Nat)) : zI9 66 zY_66 zm_66 env (2, 22, 6, 0, 0) 5 := zi_if_lt (off := 10) (t := 12) (by decide +kernel : decode zY_66.2.1 2 = .ok (.ifCond .lt 10, 3)) (by decide) (by decide +kernel)
theorem zf_zm_66_3 (env : List (Nat × Nat)) : zI9 66 zY_66 zm_66 env (5, 63, 1, 0, 0) 6 := zi_iload_n (by decide +kernel : decode zY_66.2.1 5 = .ok (.iload_n 1, 1)) rfl
theorem zf_zm_66_4 (env : List (Nat × Nat)) : zI9 66 zY_66 zm_66 env (6, 2, 1000, 0, 0) 9 := zi_sipush (by decide +kernel : decode zY_66.2.1 6 = .ok (.sipush 1000, 3)) (by decide +kernel)
theorem zf_zm_66_5 (env : List (Nat × Nat)) : zI9 66 zY_66 zm_66 env (9, 27, 8, 0, 0) 12 := zi_icmp_le (off := 7) (t := 16) (by decide +kernel : decode zY_66.2.1 9 = .ok (.if_icmp .le 7, 3)) (by decide) (by decide +kernel)
theorem zf_zm_66_6 (env : List (Nat × Nat)) : zI9 66 zY_66 zm_66 env (12, 2, 1, 0, 0) 13 := zi_iconst (by decide +kernel : decode zY_66.2.1 12 = .ok (.iconst 1, 1)) (by decide +kernel)
theorem zf_zm_66_7 (env : List (Nat × Nat)) : zI9 66 zY_66 zm_66 env (13, 7, 9, 0, 0) 16 := zi_goto (off := 4) (t := 17) (by decide +kernel : decode zY_66.2.1 13 = .ok (.goto 4, 3)) (by decide) (by decide +kernel)
theorem zf_zm_66_8 (env : List (Nat × Nat)) : zI9 66 zY_66 zm_66 env (16, 2, 0, 0, 0) 17 := zi_iconst (by decide +kernel : decode zY_66.2.1 16 = .ok (.iconst 0, 1)) (by decide +kernel)
theorem zf_zm_66_9 (env : List (Nat × Nat)) : zI9 66 zY_66 zm_66 env (17, 2, 1, 0, 0) 18 := zi_iconst (by decide +kernel : decode zY_66.2.1 17 = .ok (.iconst 1, 1)) (by decide +kernel)
theorem zf_zm_66_10 (env : List (Nat × Nat)) : zC9 66 zm_66 env (18, 66, 44, 195, 3) := zi_call (by decide +kernel) (zr_V (i := 102) (n := 2) (q := ("TransportPairModel", zF_1, 23)) zX_ok rfl (zgood_44) (by decide +kernel) (zw_T zwd_250) (zw_T zwd_259) (zw_T zwd_260) rfl (zw_T (zt_sel (y := ⟨"TransportPairModel","fails","(ZI)Z"⟩) (n := 23) 102 (by decide +kernel))) ⟨by decide +kernel, by decide +kernel, by decide +kernel⟩ rfl (by decide +kernel : decode (zYf 66).2.1 18 = .ok (.invokevirtual 102, 3)))
theorem zf_zm_66_11 (env : List (Nat × Nat)) : zI9 66 zY_66 zm_66 env (21, 5, 13, 0, 0) 24 := zi_if_eq (off := 4) (t := 25) (by decide +kernel : decode zY_66.2.1 21 = .ok (.ifCond .eq 4, 3)) (by decide) (by decide +kernel)
theorem zf_zm_66_12 (env : List (Nat × Nat)) : zR9 66 env (24, 21, 0, 0, 0) := zi_vret (by decide +kernel : decode (zYf 66).2.1 24 = .ok (.return_, 1)) rfl
theorem zf_zm_66_13 (env : List (Nat × Nat)) : zI9 66 zY_66 zm_66 env (25, 0, 0, 0, 0) 26 := zi_aload_n (by decide +kernel : decode zY_66.2.1 25 = .ok (.aload_n 0, 1)) rfl
theorem zf_zm_66_14 (env : List (Nat × Nat)) : zI9 66 zY_66 zm_66 env (26, 63, 1, 0, 0) 27 := zi_iload_n (by decide +kernel : decode zY_66.2.1 26 = .ok (.iload_n 1, 1)) rfl
theorem zf_zm_66_15 (env : List (Nat × Nat)) : zI9 66 zY_66 zm_66 env (27, 4, 1, 9, 0) 30 := zi_putf (i := 200) (N := 23) (C := "TransportPairModel") (ref := "TransportPairModel") (T := zF_1) (by decide +kernel : decode zY_66.2.1 27 = .ok (.putfield 200, 3)) rfl zuw_1 zFt_1 zFn_1 (by decide) (zw_T zwd_290) rfl rfl (ty := .int) (by decide +kernel) (rfl)
theorem zf_zm_66_16 (env : List (Nat × Nat)) : zR9 66 env (30, 21, 0, 0, 0) := zi_vret (by decide +kernel : decode (zYf 66).2.1 30 = .ok (.return_, 1)) rfl
set_option maxRecDepth 100000 in
theorem zc_zm_66 (env : List (Nat × Nat)) : zcode zX (z_QF zEX zcl zft) (z_zm zEX zX zWL zcl zft zYf) zYf zW zET zcl zft (zGv env) 66 zm_66 zm_66.1 := ⟨Or.inl ⟨1, zf_zm_66_0 env, zpc_c⟩,
  Or.inl ⟨2, zf_zm_66_1 env, zpc_c⟩,
  Or.inl ⟨5, zf_zm_66_2 env, zpc_c⟩,
  Or.inl ⟨6, zf_zm_66_3 env, zpc_c⟩,
  Or.inl ⟨9, zf_zm_66_4 env, zpc_c⟩,
  Or.inl ⟨12, zf_zm_66_5 env, zpc_c⟩,
  Or.inl ⟨13, zf_zm_66_6 env, zpc_c⟩,
  Or.inl ⟨16, zf_zm_66_7 env, zpc_c⟩,
  Or.inl ⟨17, zf_zm_66_8 env, zpc_c⟩,
  Or.inl ⟨18, zf_zm_66_9 env, zpc_c⟩,
  Or.inr (Or.inr (Or.inl ⟨zf_zm_66_10 env, zpc_c⟩)),
  Or.inl ⟨24, zf_zm_66_11 env, zpc_c⟩,
  Or.inr (Or.inl (zf_zm_66_12 env)),
  Or.inl ⟨26, zf_zm_66_13 env, zpc_c⟩,
  Or.inl ⟨27, zf_zm_66_14 env, zpc_c⟩,
  Or.inl ⟨30, zf_zm_66_15 env, zpc_c⟩,
  Or.inr (Or.inl (zf_zm_66_16 env)), trivial⟩
theorem zf_zm_67_0 (env : List (Nat × Nat)) : zI9 67 zY_67 zm_67 env (0, 0, 0, 0, 0) 1 := zi_aload_n (by decide +kernel : decode zY_67.2.1 0 = .ok (.aload_n 0, 1)) rfl
theorem zf_zm_67_1 (env : List (Nat × Nat)) : zI9 67 zY_67 zm_67 env (1, 13, 0, 0, 0) 2 := zi_dup (by decide +kernel : decode zY_67.2.1 1 = .ok (.dup, 1))
theorem zf_zm_67_2 (env : List (Nat × Nat)) : zI9 67 zY_67 zm_67 env (2, 1, 1, 8, 0) 5 := zi_getf (i := 203) (N := 23) (C := "TransportPairModel") (ref := "TransportPairModel") (T := zF_1) (by decide +kernel : decode zY_67.2.1 2 = .ok (.getfield 203, 3)) rfl zuw_1 (by decide) (zw_T zwd_291) rfl
theorem zf_zm_67_3 (env : List (Nat × Nat)) : zI9 67 zY_67 zm_67 env (5, 2, 1, 0, 0) 6 := zi_iconst (by decide +kernel : decode zY_67.2.1 5 = .ok (.iconst 1, 1)) (by decide +kernel)
theorem zf_zm_67_4 (env : List (Nat × Nat)) : zI9 67 zY_67 zm_67 env (6, 9, 0, 0, 0) 7 := zi_iadd (by decide +kernel : decode zY_67.2.1 6 = .ok (.iadd, 1))
theorem zf_zm_67_5 (env : List (Nat × Nat)) : zI9 67 zY_67 zm_67 env (7, 4, 1, 8, 0) 10 := zi_putf (i := 203) (N := 23) (C := "TransportPairModel") (ref := "TransportPairModel") (T := zF_1) (by decide +kernel : decode zY_67.2.1 7 = .ok (.putfield 203, 3)) rfl zuw_1 zFt_1 zFn_1 (by decide) (zw_T zwd_291) rfl rfl (ty := .int) (by decide +kernel) (rfl)
theorem zf_zm_67_6 (env : List (Nat × Nat)) : zI9 67 zY_67 zm_67 env (10, 2, 0, 0, 0) 11 := zi_iconst (by decide +kernel : decode zY_67.2.1 10 = .ok (.iconst 0, 1)) (by decide +kernel)
theorem zf_zm_67_7 (env : List (Nat × Nat)) : zI9 67 zY_67 zm_67 env (11, 10, 1, 0, 0) 12 := zi_istore_n (by decide +kernel : decode zY_67.2.1 11 = .ok (.istore_n 1, 1)) rfl (by decide)
theorem zf_zm_67_8 (env : List (Nat × Nat)) : zI9 67 zY_67 zm_67 env (12, 63, 1, 0, 0) 13 := zi_iload_n (by decide +kernel : decode zY_67.2.1 12 = .ok (.iload_n 1, 1)) rfl
theorem zf_zm_67_9 (env : List (Nat × Nat)) : zI9 67 zY_67 zm_67 env (13, 2, 2, 0, 0) 14 := zi_iconst (by decide +kernel : decode zY_67.2.1 13 = .ok (.iconst 2, 1)) (by decide +kernel)
theorem zf_zm_67_10 (env : List (Nat × Nat)) : zI9 67 zY_67 zm_67 env (14, 28, 15, 0, 0) 17 := zi_icmp_ge (off := 67) (t := 81) (by decide +kernel : decode zY_67.2.1 14 = .ok (.if_icmp .ge 67, 3)) (by decide) (by decide +kernel)
theorem zf_zm_67_11 (env : List (Nat × Nat)) : zI9 67 zY_67 zm_67 env (17, 0, 0, 0, 0) 18 := zi_aload_n (by decide +kernel : decode zY_67.2.1 17 = .ok (.aload_n 0, 1)) rfl
theorem zf_zm_67_12 (env : List (Nat × Nat)) : zI9 67 zY_67 zm_67 env (18, 1, 1, 9, 0) 21 := zi_getf (i := 200) (N := 23) (C := "TransportPairModel") (ref := "TransportPairModel") (T := zF_1) (by decide +kernel : decode zY_67.2.1 18 = .ok (.getfield 200, 3)) rfl zuw_1 (by decide) (zw_T zwd_290) rfl
theorem zf_zm_67_13 (env : List (Nat × Nat)) : zI9 67 zY_67 zm_67 env (21, 25, 15, 0, 0) 24 := zi_if_le (off := 60) (t := 81) (by decide +kernel : decode zY_67.2.1 21 = .ok (.ifCond .le 60, 3)) (by decide) (by decide +kernel)
theorem zf_zm_67_14 (env : List (Nat × Nat)) : zI9 67 zY_67 zm_67 env (24, 99, 0, 0, 0) 81 := zi_none
theorem zf_zm_67_15 (env : List (Nat × Nat)) : zI9 67 zY_67 zm_67 env (81, 2, 0, 0, 0) 82 := zi_iconst (by decide +kernel : decode zY_67.2.1 81 = .ok (.iconst 0, 1)) (by decide +kernel)
theorem zf_zm_67_16 (env : List (Nat × Nat)) : zI9 67 zY_67 zm_67 env (82, 10, 1, 0, 0) 83 := zi_istore_n (by decide +kernel : decode zY_67.2.1 82 = .ok (.istore_n 1, 1)) rfl (by decide)
theorem zf_zm_67_17 (env : List (Nat × Nat)) : zI9 67 zY_67 zm_67 env (83, 63, 1, 0, 0) 84 := zi_iload_n (by decide +kernel : decode zY_67.2.1 83 = .ok (.iload_n 1, 1)) rfl
theorem zf_zm_67_18 (env : List (Nat × Nat)) : zI9 67 zY_67 zm_67 env (84, 2, 2, 0, 0) 85 := zi_iconst (by decide +kernel : decode zY_67.2.1 84 = .ok (.iconst 2, 1)) (by decide +kernel)
theorem zf_zm_67_19 (env : List (Nat × Nat)) : zI9 67 zY_67 zm_67 env (85, 28, 47, 0, 0) 88 := zi_icmp_ge (off := 103) (t := 188) (by decide +kernel : decode zY_67.2.1 85 = .ok (.if_icmp .ge 103, 3)) (by decide) (by decide +kernel)
theorem zf_zm_67_20 (env : List (Nat × Nat)) : zI9 67 zY_67 zm_67 env (88, 0, 0, 0, 0) 89 := zi_aload_n (by decide +kernel : decode zY_67.2.1 88 = .ok (.aload_n 0, 1)) rfl
theorem zf_zm_67_21 (env : List (Nat × Nat)) : zI9 67 zY_67 zm_67 env (89, 1, 1, 7, 2) 92 := zi_getf (i := 37) (N := 23) (C := "TransportPairModel") (ref := "TransportPairModel") (T := zF_1) (by decide +kernel : decode zY_67.2.1 89 = .ok (.getfield 37, 3)) rfl zuw_1 (by decide) (zw_T zwd_231) rfl
theorem zf_zm_67_22 (env : List (Nat × Nat)) : zI9 67 zY_67 zm_67 env (92, 63, 1, 0, 0) 93 := zi_iload_n (by decide +kernel : decode zY_67.2.1 92 = .ok (.iload_n 1, 1)) rfl
theorem zf_zm_67_23 (env : List (Nat × Nat)) : zI9 67 zY_67 zm_67 env (93, 19, 0, 0, 0) 94 := zi_aald zft_all (by decide +kernel : decode zY_67.2.1 93 = .ok (.aaload, 1))
theorem zf_zm_67_24 (env : List (Nat × Nat)) : zI9 67 zY_67 zm_67 env (94, 65, 2, 0, 0) 95 := zi_astore_n (by decide +kernel : decode zY_67.2.1 94 = .ok (.astore_n 2, 1)) rfl (by decide)
theorem zf_zm_67_25 (env : List (Nat × Nat)) : zI9 67 zY_67 zm_67 env (95, 0, 2, 0, 0) 96 := zi_aload_n (by decide +kernel : decode zY_67.2.1 95 = .ok (.aload_n 2, 1)) rfl
theorem zf_zm_67_26 (env : List (Nat × Nat)) : zC9 67 zm_67 env (96, 66, 124, 68, 20) := zi_call (by decide +kernel) (zr_V (i := 209) (n := 0) (q := ("TransportPairModel$Side", zF_18, 53)) zX_ok rfl (zgood_124) (by decide +kernel) (zw_T zwd_228) (zw_T zwd_292) (zw_T zwd_293) rfl (zw_T zwd_294) ⟨by decide +kernel, by decide +kernel, by decide +kernel⟩ rfl (by decide +kernel : decode (zYf 67).2.1 96 = .ok (.invokevirtual 209, 3)))
theorem zf_zm_67_27 (env : List (Nat × Nat)) : zI9 67 zY_67 zm_67 env (99, 0, 2, 0, 0) 100 := zi_aload_n (by decide +kernel : decode zY_67.2.1 99 = .ok (.aload_n 2, 1)) rfl
theorem zf_zm_67_28 (env : List (Nat × Nat)) : zC9 67 zm_67 env (100, 66, 122, 65, 20) := zi_call (by decide +kernel) (zr_V (i := 163) (n := 0) (q := ("TransportPairModel$Side", zF_18, 53)) zX_ok rfl (zgood_122) (by decide +kernel) (zw_T zwd_228) (zw_T zwd_285) (zw_T zwd_286) rfl (zw_T zwd_287) ⟨by decide +kernel, by decide +kernel, by decide +kernel⟩ rfl (by decide +kernel : decode (zYf 67).2.1 100 = .ok (.invokevirtual 163, 3)))
theorem zf_zm_67_29 (env : List (Nat × Nat)) : zI9 67 zY_67 zm_67 env (103, 6, 34, 0, 0) 106 := zi_if_ne (off := 11) (t := 114) (by decide +kernel : decode zY_67.2.1 103 = .ok (.ifCond .ne 11, 3)) (by decide) (by decide +kernel)
theorem zf_zm_67_30 (env : List (Nat × Nat)) : zI9 67 zY_67 zm_67 env (106, 0, 2, 0, 0) 107 := zi_aload_n (by decide +kernel : decode zY_67.2.1 106 = .ok (.aload_n 2, 1)) rfl
theorem zf_zm_67_31 (env : List (Nat × Nat)) : zI9 67 zY_67 zm_67 env (107, 1, 18, 8, 0) 110 := zi_getfN (i := 110) (N := 53) (C := "TransportPairModel$Side") (ref := "TransportPairModel$Side") (T := zF_18) (by decide +kernel : decode zY_67.2.1 107 = .ok (.getfield 110, 3)) rfl zuw_18 (by decide) (zw_N zwd_264) rfl
theorem zf_zm_67_32 (env : List (Nat × Nat)) : zI9 67 zY_67 zm_67 env (110, 2, 3, 0, 0) 111 := zi_iconst (by decide +kernel : decode zY_67.2.1 110 = .ok (.iconst 3, 1)) (by decide +kernel)
theorem zf_zm_67_33 (env : List (Nat × Nat)) : zI9 67 zY_67 zm_67 env (111, 29, 35, 0, 0) 114 := zi_icmp_ne (off := 7) (t := 118) (by decide +kernel : decode zY_67.2.1 111 = .ok (.if_icmp .ne 7, 3)) (by decide) (by decide +kernel)
theorem zf_zm_67_34 (env : List (Nat × Nat)) : zI9 67 zY_67 zm_67 env (114, 99, 0, 0, 0) 118 := zi_none
theorem zf_zm_67_35 (env : List (Nat × Nat)) : zI9 67 zY_67 zm_67 env (118, 2, 0, 0, 0) 119 := zi_iconst (by decide +kernel : decode zY_67.2.1 118 = .ok (.iconst 0, 1)) (by decide +kernel)
theorem zf_zm_67_36 (env : List (Nat × Nat)) : zI9 67 zY_67 zm_67 env (119, 10, 3, 0, 0) 120 := zi_istore_n (by decide +kernel : decode zY_67.2.1 119 = .ok (.istore_n 3, 1)) rfl (by decide)
theorem zf_zm_67_37 (env : List (Nat × Nat)) : zI9 67 zY_67 zm_67 env (120, 2, 0, 0, 0) 121 := zi_iconst (by decide +kernel : decode zY_67.2.1 120 = .ok (.iconst 0, 1)) (by decide +kernel)
theorem zf_zm_67_38 (env : List (Nat × Nat)) : zI9 67 zY_67 zm_67 env (121, 10, 4, 0, 0) 123 := zi_istore (by decide +kernel : decode zY_67.2.1 121 = .ok (.istore 4, 2)) (by decide)
theorem zf_zm_67_39 (env : List (Nat × Nat)) : zI9 67 zY_67 zm_67 env (123, 63, 4, 0, 0) 125 := zi_iload (by decide +kernel : decode zY_67.2.1 123 = .ok (.iload 4, 2))
theorem zf_zm_67_40 (env : List (Nat × Nat)) : zI9 67 zY_67 zm_67 env (125, 2, 16, 0, 0) 127 := zi_bipush (by decide +kernel : decode zY_67.2.1 125 = .ok (.bipush 16, 2)) (by decide +kernel)
theorem zf_zm_67_41 (env : List (Nat × Nat)) : zI9 67 zY_67 zm_67 env (127, 28, 45, 0, 0) 130 := zi_icmp_ge (off := 55) (t := 182) (by decide +kernel : decode zY_67.2.1 127 = .ok (.if_icmp .ge 55, 3)) (by decide) (by decide +kernel)
theorem zf_zm_67_42 (env : List (Nat × Nat)) : zI9 67 zY_67 zm_67 env (130, 63, 3, 0, 0) 131 := zi_iload_n (by decide +kernel : decode zY_67.2.1 130 = .ok (.iload_n 3, 1)) rfl
theorem zf_zm_67_43 (env : List (Nat × Nat)) : zI9 67 zY_67 zm_67 env (131, 5, 45, 0, 0) 134 := zi_if_eq (off := 51) (t := 182) (by decide +kernel : decode zY_67.2.1 131 = .ok (.ifCond .eq 51, 3)) (by decide) (by decide +kernel)
theorem zf_zm_67_44 (env : List (Nat × Nat)) : zI9 67 zY_67 zm_67 env (134, 99, 0, 0, 0) 182 := zi_none
theorem zf_zm_67_45 (env : List (Nat × Nat)) : zI9 67 zY_67 zm_67 env (182, 35, 1, 1, 0) 185 := zi_iinc (by decide +kernel : decode zY_67.2.1 182 = .ok (.iinc 1 1, 3)) (by decide +kernel) (by decide)
theorem zf_zm_67_46 (env : List (Nat × Nat)) : zI9 67 zY_67 zm_67 env (185, 7, 17, 0, 0) 188 := zi_goto (off := (-102)) (t := 83) (by decide +kernel : decode zY_67.2.1 185 = .ok (.goto (-102), 3)) (by decide) (by decide +kernel)
theorem zf_zm_67_47 (env : List (Nat × Nat)) : zR9 67 env (188, 21, 0, 0, 0) := zi_vret (by decide +kernel : decode (zYf 67).2.1 188 = .ok (.return_, 1)) rfl
set_option maxRecDepth 100000 in
theorem zc_zm_67 (env : List (Nat × Nat)) : zcode zX (z_QF zEX zcl zft) (z_zm zEX zX zWL zcl zft zYf) zYf zW zET zcl zft (zGv env) 67 zm_67 zm_67.1 := ⟨Or.inl ⟨1, zf_zm_67_0 env, zpc_c⟩,
  Or.inl ⟨2, zf_zm_67_1 env, zpc_c⟩,
  Or.inl ⟨5, zf_zm_67_2 env, zpc_c⟩,
  Or.inl ⟨6, zf_zm_67_3 env, zpc_c⟩,
  Or.inl ⟨7, zf_zm_67_4 env, zpc_c⟩,
  Or.inl ⟨10, zf_zm_67_5 env, zpc_c⟩,
  Or.inl ⟨11, zf_zm_67_6 env, zpc_c⟩,
  Or.inl ⟨12, zf_zm_67_7 env, zpc_c⟩,
  Or.inl ⟨13, zf_zm_67_8 env, zpc_c⟩,
  Or.inl ⟨14, zf_zm_67_9 env, zpc_c⟩,
  Or.inl ⟨17, zf_zm_67_10 env, zpc_c⟩,
  Or.inl ⟨18, zf_zm_67_11 env, zpc_c⟩,
  Or.inl ⟨21, zf_zm_67_12 env, zpc_c⟩,
  Or.inl ⟨24, zf_zm_67_13 env, zpc_c⟩,
  Or.inl ⟨81, zf_zm_67_14 env, zpc_c⟩,
  Or.inl ⟨82, zf_zm_67_15 env, zpc_c⟩,
  Or.inl ⟨83, zf_zm_67_16 env, zpc_c⟩,
  Or.inl ⟨84, zf_zm_67_17 env, zpc_c⟩,
  Or.inl ⟨85, zf_zm_67_18 env, zpc_c⟩,
  Or.inl ⟨88, zf_zm_67_19 env, zpc_c⟩,
  Or.inl ⟨89, zf_zm_67_20 env, zpc_c⟩,
  Or.inl ⟨92, zf_zm_67_21 env, zpc_c⟩,
  Or.inl ⟨93, zf_zm_67_22 env, zpc_c⟩,
  Or.inl ⟨94, zf_zm_67_23 env, zpc_c⟩,
  Or.inl ⟨95, zf_zm_67_24 env, zpc_c⟩,
  Or.inl ⟨96, zf_zm_67_25 env, zpc_c⟩,
  Or.inr (Or.inr (Or.inl ⟨zf_zm_67_26 env, zpc_c⟩)),
  Or.inl ⟨100, zf_zm_67_27 env, zpc_c⟩,
  Or.inr (Or.inr (Or.inl ⟨zf_zm_67_28 env, zpc_c⟩)),
  Or.inl ⟨106, zf_zm_67_29 env, zpc_c⟩,
  Or.inl ⟨107, zf_zm_67_30 env, zpc_c⟩,
  Or.inl ⟨110, zf_zm_67_31 env, zpc_c⟩,
  Or.inl ⟨111, zf_zm_67_32 env, zpc_c⟩,
  Or.inl ⟨114, zf_zm_67_33 env, zpc_c⟩,
  Or.inl ⟨118, zf_zm_67_34 env, zpc_c⟩,
  Or.inl ⟨119, zf_zm_67_35 env, zpc_c⟩,
  Or.inl ⟨120, zf_zm_67_36 env, zpc_c⟩,
  Or.inl ⟨121, zf_zm_67_37 env, zpc_c⟩,
  Or.inl ⟨123, zf_zm_67_38 env, zpc_c⟩,
  Or.inl ⟨125, zf_zm_67_39 env, zpc_c⟩,
  Or.inl ⟨127, zf_zm_67_40 env, zpc_c⟩,
  Or.inl ⟨130, zf_zm_67_41 env, zpc_c⟩,
  Or.inl ⟨131, zf_zm_67_42 env, zpc_c⟩,
  Or.inl ⟨134, zf_zm_67_43 env, zpc_c⟩,
  Or.inl ⟨182, zf_zm_67_44 env, zpc_c⟩,
  Or.inl ⟨185, zf_zm_67_45 env, zpc_c⟩,
  Or.inl ⟨188, zf_zm_67_46 env, zpc_c⟩,
  Or.inr (Or.inl (zf_zm_67_47 env)), trivial⟩
theorem zf_zm_68_0 (env : List (Nat × Nat)) : zI9 68 zY_68 zm_68 env (0, 0, 0, 0, 0) 1 := zi_aload_n (by decide +kernel : decode zY_68.2.1 0 = .ok (.aload_n 0, 1)) rfl
theorem zf_zm_68_1 (env : List (Nat × Nat)) : zI9 68 zY_68 zm_68 env (1, 63, 1, 0, 0) 2 := zi_iload_n (by decide +kernel : decode zY_68.2.1 1 = .ok (.iload_n 1, 1)) rfl
theorem zf_zm_68_2 (env : List (Nat × Nat)) : zC9 68 zm_68 env (2, 66, 45, 65, 0) := zi_call (by decide +kernel) (zr_S (i := 106) zX_ok rfl (zgood_45) (by decide +kernel) (zw_T zwd_250) (zw_T zwd_261) (zw_T zwd_262) ⟨by decide +kernel, by decide +kernel, by decide +kernel⟩ (by decide +kernel : decode (zYf 68).2.1 2 = .ok (.invokestatic 106, 3)))
theorem zf_zm_68_3 (env : List (Nat × Nat)) : zI9 68 zY_68 zm_68 env (5, 6, 9, 0, 0) 8 := zi_if_ne (off := 12) (t := 17) (by decide +kernel : decode zY_68.2.1 5 = .ok (.ifCond .ne 12, 3)) (by decide) (by decide +kernel)
theorem zf_zm_68_4 (env : List (Nat × Nat)) : zI9 68 zY_68 zm_68 env (8, 63, 2, 0, 0) 9 := zi_iload_n (by decide +kernel : decode zY_68.2.1 8 = .ok (.iload_n 2, 1)) rfl
theorem zf_zm_68_5 (env : List (Nat × Nat)) : zI9 68 zY_68 zm_68 env (9, 22, 9, 0, 0) 12 := zi_if_lt (off := 8) (t := 17) (by decide +kernel : decode zY_68.2.1 9 = .ok (.ifCond .lt 8, 3)) (by decide) (by decide +kernel)
theorem zf_zm_68_6 (env : List (Nat × Nat)) : zI9 68 zY_68 zm_68 env (12, 63, 2, 0, 0) 13 := zi_iload_n (by decide +kernel : decode zY_68.2.1 12 = .ok (.iload_n 2, 1)) rfl
theorem zf_zm_68_7 (env : List (Nat × Nat)) : zI9 68 zY_68 zm_68 env (13, 2, 2, 0, 0) 14 := zi_iconst (by decide +kernel : decode zY_68.2.1 13 = .ok (.iconst 2, 1)) (by decide +kernel)
theorem zf_zm_68_8 (env : List (Nat × Nat)) : zI9 68 zY_68 zm_68 env (14, 27, 11, 0, 0) 17 := zi_icmp_le (off := 7) (t := 21) (by decide +kernel : decode zY_68.2.1 14 = .ok (.if_icmp .le 7, 3)) (by decide) (by decide +kernel)
theorem zf_zm_68_9 (env : List (Nat × Nat)) : zI9 68 zY_68 zm_68 env (17, 2, 1, 0, 0) 18 := zi_iconst (by decide +kernel : decode zY_68.2.1 17 = .ok (.iconst 1, 1)) (by decide +kernel)
theorem zf_zm_68_10 (env : List (Nat × Nat)) : zI9 68 zY_68 zm_68 env (18, 7, 12, 0, 0) 21 := zi_goto (off := 4) (t := 22) (by decide +kernel : decode zY_68.2.1 18 = .ok (.goto 4, 3)) (by decide) (by decide +kernel)
theorem zf_zm_68_11 (env : List (Nat × Nat)) : zI9 68 zY_68 zm_68 env (21, 2, 0, 0, 0) 22 := zi_iconst (by decide +kernel : decode zY_68.2.1 21 = .ok (.iconst 0, 1)) (by decide +kernel)
theorem zf_zm_68_12 (env : List (Nat × Nat)) : zI9 68 zY_68 zm_68 env (22, 2, 1, 0, 0) 23 := zi_iconst (by decide +kernel : decode zY_68.2.1 22 = .ok (.iconst 1, 1)) (by decide +kernel)
theorem zf_zm_68_13 (env : List (Nat × Nat)) : zC9 68 zm_68 env (23, 66, 44, 195, 3) := zi_call (by decide +kernel) (zr_V (i := 102) (n := 2) (q := ("TransportPairModel", zF_1, 23)) zX_ok rfl (zgood_44) (by decide +kernel) (zw_T zwd_250) (zw_T zwd_259) (zw_T zwd_260) rfl (zw_T (zt_sel (y := ⟨"TransportPairModel","fails","(ZI)Z"⟩) (n := 23) 102 (by decide +kernel))) ⟨by decide +kernel, by decide +kernel, by decide +kernel⟩ rfl (by decide +kernel : decode (zYf 68).2.1 23 = .ok (.invokevirtual 102, 3)))
theorem zf_zm_68_14 (env : List (Nat × Nat)) : zI9 68 zY_68 zm_68 env (26, 5, 17, 0, 0) 29 := zi_if_eq (off := 5) (t := 31) (by decide +kernel : decode zY_68.2.1 26 = .ok (.ifCond .eq 5, 3)) (by decide) (by decide +kernel)
theorem zf_zm_68_15 (env : List (Nat × Nat)) : zI9 68 zY_68 zm_68 env (29, 2, 0, 0, 0) 30 := zi_iconst (by decide +kernel : decode zY_68.2.1 29 = .ok (.iconst 0, 1)) (by decide +kernel)
theorem zf_zm_68_16 (env : List (Nat × Nat)) : zR9 68 env (30, 11, 0, 0, 0) := zi_iret (by decide +kernel : decode (zYf 68).2.1 30 = .ok (.ireturn, 1)) rfl
theorem zf_zm_68_17 (env : List (Nat × Nat)) : zI9 68 zY_68 zm_68 env (31, 63, 2, 0, 0) 32 := zi_iload_n (by decide +kernel : decode zY_68.2.1 31 = .ok (.iload_n 2, 1)) rfl
theorem zf_zm_68_18 (env : List (Nat × Nat)) : zI9 68 zY_68 zm_68 env (32, 6, 24, 0, 0) 35 := zi_if_ne (off := 12) (t := 44) (by decide +kernel : decode zY_68.2.1 32 = .ok (.ifCond .ne 12, 3)) (by decide) (by decide +kernel)
theorem zf_zm_68_19 (env : List (Nat × Nat)) : zI9 68 zY_68 zm_68 env (35, 0, 0, 0, 0) 36 := zi_aload_n (by decide +kernel : decode zY_68.2.1 35 = .ok (.aload_n 0, 1)) rfl
theorem zf_zm_68_20 (env : List (Nat × Nat)) : zI9 68 zY_68 zm_68 env (36, 1, 1, 10, 2) 39 := zi_getf (i := 41) (N := 23) (C := "TransportPairModel") (ref := "TransportPairModel") (T := zF_1) (by decide +kernel : decode zY_68.2.1 36 = .ok (.getfield 41, 3)) rfl zuw_1 (by decide) (zw_T zwd_232) rfl
theorem zf_zm_68_21 (env : List (Nat × Nat)) : zI9 68 zY_68 zm_68 env (39, 63, 1, 0, 0) 40 := zi_iload_n (by decide +kernel : decode zY_68.2.1 39 = .ok (.iload_n 1, 1)) rfl
theorem zf_zm_68_22 (env : List (Nat × Nat)) : zI9 68 zY_68 zm_68 env (40, 8, 0, 0, 0) 41 := zi_iald (zscr_ok (by decide +kernel : decode zY_68.2.1 40 = .ok (.iaload, 1))) (by decide +kernel : decode zY_68.2.1 40 = .ok (.iaload, 1))
theorem zf_zm_68_23 (env : List (Nat × Nat)) : zI9 68 zY_68 zm_68 env (41, 7, 36, 0, 0) 44 := zi_goto (off := 23) (t := 64) (by decide +kernel : decode zY_68.2.1 41 = .ok (.goto 23, 3)) (by decide) (by decide +kernel)
theorem zf_zm_68_24 (env : List (Nat × Nat)) : zI9 68 zY_68 zm_68 env (44, 63, 2, 0, 0) 45 := zi_iload_n (by decide +kernel : decode zY_68.2.1 44 = .ok (.iload_n 2, 1)) rfl
theorem zf_zm_68_25 (env : List (Nat × Nat)) : zI9 68 zY_68 zm_68 env (45, 2, 1, 0, 0) 46 := zi_iconst (by decide +kernel : decode zY_68.2.1 45 = .ok (.iconst 1, 1)) (by decide +kernel)
theorem zf_zm_68_26 (env : List (Nat × Nat)) : zI9 68 zY_68 zm_68 env (46, 29, 32, 0, 0) 49 := zi_icmp_ne (off := 12) (t := 58) (by decide +kernel : decode zY_68.2.1 46 = .ok (.if_icmp .ne 12, 3)) (by decide) (by decide +kernel)
theorem zf_zm_68_27 (env : List (Nat × Nat)) : zI9 68 zY_68 zm_68 env (49, 0, 0, 0, 0) 50 := zi_aload_n (by decide +kernel : decode zY_68.2.1 49 = .ok (.aload_n 0, 1)) rfl
theorem zf_zm_68_28 (env : List (Nat × Nat)) : zI9 68 zY_68 zm_68 env (50, 1, 1, 16, 2) 53 := zi_getf (i := 61) (N := 23) (C := "TransportPairModel") (ref := "TransportPairModel") (T := zF_1) (by decide +kernel : decode zY_68.2.1 50 = .ok (.getfield 61, 3)) rfl zuw_1 (by decide) (zw_T zwd_239) rfl
theorem zf_zm_68_29 (env : List (Nat × Nat)) : zI9 68 zY_68 zm_68 env (53, 63, 1, 0, 0) 54 := zi_iload_n (by decide +kernel : decode zY_68.2.1 53 = .ok (.iload_n 1, 1)) rfl
theorem zf_zm_68_30 (env : List (Nat × Nat)) : zI9 68 zY_68 zm_68 env (54, 8, 0, 0, 0) 55 := zi_iald (zscr_ok (by decide +kernel : decode zY_68.2.1 54 = .ok (.iaload, 1))) (by decide +kernel : decode zY_68.2.1 54 = .ok (.iaload, 1))
theorem zf_zm_68_31 (env : List (Nat × Nat)) : zI9 68 zY_68 zm_68 env (55, 7, 36, 0, 0) 58 := zi_goto (off := 9) (t := 64) (by decide +kernel : decode zY_68.2.1 55 = .ok (.goto 9, 3)) (by decide) (by decide +kernel)
theorem zf_zm_68_32 (env : List (Nat × Nat)) : zI9 68 zY_68 zm_68 env (58, 0, 0, 0, 0) 59 := zi_aload_n (by decide +kernel : decode zY_68.2.1 58 = .ok (.aload_n 0, 1)) rfl
theorem zf_zm_68_33 (env : List (Nat × Nat)) : zI9 68 zY_68 zm_68 env (59, 1, 1, 17, 2) 62 := zi_getf (i := 64) (N := 23) (C := "TransportPairModel") (ref := "TransportPairModel") (T := zF_1) (by decide +kernel : decode zY_68.2.1 59 = .ok (.getfield 64, 3)) rfl zuw_1 (by decide) (zw_T zwd_240) rfl
theorem zf_zm_68_34 (env : List (Nat × Nat)) : zI9 68 zY_68 zm_68 env (62, 63, 1, 0, 0) 63 := zi_iload_n (by decide +kernel : decode zY_68.2.1 62 = .ok (.iload_n 1, 1)) rfl
theorem zf_zm_68_35 (env : List (Nat × Nat)) : zI9 68 zY_68 zm_68 env (63, 8, 0, 0, 0) 64 := zi_iald (zscr_ok (by decide +kernel : decode zY_68.2.1 63 = .ok (.iaload, 1))) (by decide +kernel : decode zY_68.2.1 63 = .ok (.iaload, 1))
theorem zf_zm_68_36 (env : List (Nat × Nat)) : zR9 68 env (64, 11, 0, 0, 0) := zi_iret (by decide +kernel : decode (zYf 68).2.1 64 = .ok (.ireturn, 1)) rfl
set_option maxRecDepth 100000 in
theorem zc_zm_68 (env : List (Nat × Nat)) : zcode zX (z_QF zEX zcl zft) (z_zm zEX zX zWL zcl zft zYf) zYf zW zET zcl zft (zGv env) 68 zm_68 zm_68.1 := ⟨Or.inl ⟨1, zf_zm_68_0 env, zpc_c⟩,
  Or.inl ⟨2, zf_zm_68_1 env, zpc_c⟩,
  Or.inr (Or.inr (Or.inl ⟨zf_zm_68_2 env, zpc_c⟩)),
  Or.inl ⟨8, zf_zm_68_3 env, zpc_c⟩,
  Or.inl ⟨9, zf_zm_68_4 env, zpc_c⟩,
  Or.inl ⟨12, zf_zm_68_5 env, zpc_c⟩,
  Or.inl ⟨13, zf_zm_68_6 env, zpc_c⟩,
  Or.inl ⟨14, zf_zm_68_7 env, zpc_c⟩,
  Or.inl ⟨17, zf_zm_68_8 env, zpc_c⟩,
  Or.inl ⟨18, zf_zm_68_9 env, zpc_c⟩,
  Or.inl ⟨21, zf_zm_68_10 env, zpc_c⟩,
  Or.inl ⟨22, zf_zm_68_11 env, zpc_c⟩,
  Or.inl ⟨23, zf_zm_68_12 env, zpc_c⟩,
  Or.inr (Or.inr (Or.inl ⟨zf_zm_68_13 env, zpc_c⟩)),
  Or.inl ⟨29, zf_zm_68_14 env, zpc_c⟩,
  Or.inl ⟨30, zf_zm_68_15 env, zpc_c⟩,
  Or.inr (Or.inl (zf_zm_68_16 env)),
  Or.inl ⟨32, zf_zm_68_17 env, zpc_c⟩,
  Or.inl ⟨35, zf_zm_68_18 env, zpc_c⟩,
  Or.inl ⟨36, zf_zm_68_19 env, zpc_c⟩,
  Or.inl ⟨39, zf_zm_68_20 env, zpc_c⟩,
  Or.inl ⟨40, zf_zm_68_21 env, zpc_c⟩,
  Or.inl ⟨41, zf_zm_68_22 env, zpc_c⟩,
  Or.inl ⟨44, zf_zm_68_23 env, zpc_c⟩,
  Or.inl ⟨45, zf_zm_68_24 env, zpc_c⟩,
  Or.inl ⟨46, zf_zm_68_25 env, zpc_c⟩,
  Or.inl ⟨49, zf_zm_68_26 env, zpc_c⟩,
  Or.inl ⟨50, zf_zm_68_27 env, zpc_c⟩,
  Or.inl ⟨53, zf_zm_68_28 env, zpc_c⟩,
  Or.inl ⟨54, zf_zm_68_29 env, zpc_c⟩,
  Or.inl ⟨55, zf_zm_68_30 env, zpc_c⟩,
  Or.inl ⟨58, zf_zm_68_31 env, zpc_c⟩,
  Or.inl ⟨59, zf_zm_68_32 env, zpc_c⟩,
  Or.inl ⟨62, zf_zm_68_33 env, zpc_c⟩,
  Or.inl ⟨63, zf_zm_68_34 env, zpc_c⟩,
  Or.inl ⟨64, zf_zm_68_35 env, zpc_c⟩,
  Or.inr (Or.inl (zf_zm_68_36 env)), trivial⟩
