/-! FACTS (by program) -/
theorem zf_zm_92_0 (env : List (Nat × Nat)) : zI9 92 zY_92 zm_92 env (0, 63, 1, 0, 0) 1 := zi_iload_n (by decide +kernel : decode zY_92.2.1 0 = .ok (.iload_n 1, 1)) rfl
theorem zf_zm_92_1 (env : List (Nat × Nat)) : zI9 92 zY_92 zm_92 env (1, 40, 0, 0, 0) 52 := zi_switch (df := 56) (lo := 0) (tg := [2, 5, 8, 15, 21, 25, 29, 32, 35]) (by decide +kernel : decode zY_92.2.1 1 = .ok (.tableswitch 155 0 8 #[51, 56, 61, 77, 90, 98, 106, 111, 116], 51)) rfl (by decide) (by decide +kernel) (by decide +kernel)
theorem zf_zm_92_2 (env : List (Nat × Nat)) : zI9 92 zY_92 zm_92 env (52, 0, 0, 0, 0) 53 := zi_aload_n (by decide +kernel : decode zY_92.2.1 52 = .ok (.aload_n 0, 1)) rfl
theorem zf_zm_92_3 (env : List (Nat × Nat)) : zI9 92 zY_92 zm_92 env (53, 1, 10, 10, 0) 56 := zi_getf (i := 74) (N := 22) (C := "TransportPair$Side") (ref := "TransportPair$Side") (T := zF_10) (by decide +kernel : decode zY_92.2.1 53 = .ok (.getfield 74, 3)) rfl zuw_10 (by decide) (zw_T zwd_478) rfl
theorem zf_zm_92_4 (env : List (Nat × Nat)) : zR9 92 env (56, 11, 0, 0, 0) := zi_iret (by decide +kernel : decode (zYf 92).2.1 56 = .ok (.ireturn, 1)) rfl
theorem zf_zm_92_5 (env : List (Nat × Nat)) : zI9 92 zY_92 zm_92 env (57, 0, 0, 0, 0) 58 := zi_aload_n (by decide +kernel : decode zY_92.2.1 57 = .ok (.aload_n 0, 1)) rfl
theorem zf_zm_92_6 (env : List (Nat × Nat)) : zI9 92 zY_92 zm_92 env (58, 1, 10, 11, 0) 61 := zi_getf (i := 77) (N := 22) (C := "TransportPair$Side") (ref := "TransportPair$Side") (T := zF_10) (by decide +kernel : decode zY_92.2.1 58 = .ok (.getfield 77, 3)) rfl zuw_10 (by decide) (zw_T zwd_479) rfl
theorem zf_zm_92_7 (env : List (Nat × Nat)) : zR9 92 env (61, 11, 0, 0, 0) := zi_iret (by decide +kernel : decode (zYf 92).2.1 61 = .ok (.ireturn, 1)) rfl
theorem zf_zm_92_8 (env : List (Nat × Nat)) : zI9 92 zY_92 zm_92 env (62, 0, 0, 0, 0) 63 := zi_aload_n (by decide +kernel : decode zY_92.2.1 62 = .ok (.aload_n 0, 1)) rfl
theorem zf_zm_92_9 (env : List (Nat × Nat)) : zI9 92 zY_92 zm_92 env (63, 1, 10, 5, 2) 66 := zi_getf (i := 53) (N := 22) (C := "TransportPair$Side") (ref := "TransportPair$Side") (T := zF_10) (by decide +kernel : decode zY_92.2.1 63 = .ok (.getfield 53, 3)) rfl zuw_10 (by decide) (zw_T zwd_469) rfl
theorem zf_zm_92_10 (env : List (Nat × Nat)) : zI9 92 zY_92 zm_92 env (66, 1, 2, 14, 3) 69 := zi_getf (i := 80) (N := 20) (C := "TransportPair$Book") (ref := "TransportPair$Book") (T := zF_2) (by decide +kernel : decode zY_92.2.1 66 = .ok (.getfield 80, 3)) rfl zuw_2 (by decide) (zw_T zwd_480) rfl
theorem zf_zm_92_11 (env : List (Nat × Nat)) : zI9 92 zY_92 zm_92 env (69, 5, 13, 0, 0) 72 := zi_if_eq (off := 7) (t := 76) (by decide +kernel : decode zY_92.2.1 69 = .ok (.ifCond .eq 7, 3)) (by decide) (by decide +kernel)
theorem zf_zm_92_12 (env : List (Nat × Nat)) : zI9 92 zY_92 zm_92 env (72, 99, 0, 0, 0) 76 := zi_none
theorem zf_zm_92_13 (env : List (Nat × Nat)) : zI9 92 zY_92 zm_92 env (76, 2, 0, 0, 0) 77 := zi_iconst (by decide +kernel : decode zY_92.2.1 76 = .ok (.iconst 0, 1)) (by decide +kernel)
theorem zf_zm_92_14 (env : List (Nat × Nat)) : zR9 92 env (77, 11, 0, 0, 0) := zi_iret (by decide +kernel : decode (zYf 92).2.1 77 = .ok (.ireturn, 1)) rfl
theorem zf_zm_92_15 (env : List (Nat × Nat)) : zI9 92 zY_92 zm_92 env (78, 0, 0, 0, 0) 79 := zi_aload_n (by decide +kernel : decode zY_92.2.1 78 = .ok (.aload_n 0, 1)) rfl
theorem zf_zm_92_16 (env : List (Nat × Nat)) : zI9 92 zY_92 zm_92 env (79, 1, 10, 13, 3) 82 := zi_getf (i := 84) (N := 22) (C := "TransportPair$Side") (ref := "TransportPair$Side") (T := zF_10) (by decide +kernel : decode zY_92.2.1 79 = .ok (.getfield 84, 3)) rfl zuw_10 (by decide) (zw_T zwd_481) rfl
theorem zf_zm_92_17 (env : List (Nat × Nat)) : zI9 92 zY_92 zm_92 env (82, 5, 19, 0, 0) 85 := zi_if_eq (off := 7) (t := 89) (by decide +kernel : decode zY_92.2.1 82 = .ok (.ifCond .eq 7, 3)) (by decide) (by decide +kernel)
theorem zf_zm_92_18 (env : List (Nat × Nat)) : zI9 92 zY_92 zm_92 env (85, 99, 0, 0, 0) 89 := zi_none
theorem zf_zm_92_19 (env : List (Nat × Nat)) : zI9 92 zY_92 zm_92 env (89, 2, 0, 0, 0) 90 := zi_iconst (by decide +kernel : decode zY_92.2.1 89 = .ok (.iconst 0, 1)) (by decide +kernel)
theorem zf_zm_92_20 (env : List (Nat × Nat)) : zR9 92 env (90, 11, 0, 0, 0) := zi_iret (by decide +kernel : decode (zYf 92).2.1 90 = .ok (.ireturn, 1)) rfl
theorem zf_zm_92_21 (env : List (Nat × Nat)) : zI9 92 zY_92 zm_92 env (91, 0, 0, 0, 0) 92 := zi_aload_n (by decide +kernel : decode zY_92.2.1 91 = .ok (.aload_n 0, 1)) rfl
theorem zf_zm_92_22 (env : List (Nat × Nat)) : zI9 92 zY_92 zm_92 env (92, 1, 10, 7, 2) 95 := zi_getf (i := 61) (N := 22) (C := "TransportPair$Side") (ref := "TransportPair$Side") (T := zF_10) (by decide +kernel : decode zY_92.2.1 92 = .ok (.getfield 61, 3)) rfl zuw_10 (by decide) (zw_T zwd_471) rfl
theorem zf_zm_92_23 (env : List (Nat × Nat)) : zI9 92 zY_92 zm_92 env (95, 1, 3, 5, 0) 98 := zi_getf (i := 87) (N := 22) (C := "TransportPair$Greeting") (ref := "TransportPair$Greeting") (T := zF_3) (by decide +kernel : decode zY_92.2.1 95 = .ok (.getfield 87, 3)) rfl zuw_3 (by decide) (zw_T zwd_482) rfl
theorem zf_zm_92_24 (env : List (Nat × Nat)) : zR9 92 env (98, 11, 0, 0, 0) := zi_iret (by decide +kernel : decode (zYf 92).2.1 98 = .ok (.ireturn, 1)) rfl
theorem zf_zm_92_25 (env : List (Nat × Nat)) : zI9 92 zY_92 zm_92 env (99, 0, 0, 0, 0) 100 := zi_aload_n (by decide +kernel : decode zY_92.2.1 99 = .ok (.aload_n 0, 1)) rfl
theorem zf_zm_92_26 (env : List (Nat × Nat)) : zI9 92 zY_92 zm_92 env (100, 1, 10, 7, 2) 103 := zi_getf (i := 61) (N := 22) (C := "TransportPair$Side") (ref := "TransportPair$Side") (T := zF_10) (by decide +kernel : decode zY_92.2.1 100 = .ok (.getfield 61, 3)) rfl zuw_10 (by decide) (zw_T zwd_471) rfl
theorem zf_zm_92_27 (env : List (Nat × Nat)) : zI9 92 zY_92 zm_92 env (103, 1, 3, 7, 0) 106 := zi_getf (i := 90) (N := 22) (C := "TransportPair$Greeting") (ref := "TransportPair$Greeting") (T := zF_3) (by decide +kernel : decode zY_92.2.1 103 = .ok (.getfield 90, 3)) rfl zuw_3 (by decide) (zw_T zwd_483) rfl
theorem zf_zm_92_28 (env : List (Nat × Nat)) : zR9 92 env (106, 11, 0, 0, 0) := zi_iret (by decide +kernel : decode (zYf 92).2.1 106 = .ok (.ireturn, 1)) rfl
theorem zf_zm_92_29 (env : List (Nat × Nat)) : zI9 92 zY_92 zm_92 env (107, 0, 0, 0, 0) 108 := zi_aload_n (by decide +kernel : decode zY_92.2.1 107 = .ok (.aload_n 0, 1)) rfl
theorem zf_zm_92_30 (env : List (Nat × Nat)) : zI9 92 zY_92 zm_92 env (108, 1, 10, 14, 0) 111 := zi_getf (i := 93) (N := 22) (C := "TransportPair$Side") (ref := "TransportPair$Side") (T := zF_10) (by decide +kernel : decode zY_92.2.1 108 = .ok (.getfield 93, 3)) rfl zuw_10 (by decide) (zw_T zwd_484) rfl
theorem zf_zm_92_31 (env : List (Nat × Nat)) : zR9 92 env (111, 11, 0, 0, 0) := zi_iret (by decide +kernel : decode (zYf 92).2.1 111 = .ok (.ireturn, 1)) rfl
theorem zf_zm_92_32 (env : List (Nat × Nat)) : zI9 92 zY_92 zm_92 env (112, 0, 0, 0, 0) 113 := zi_aload_n (by decide +kernel : decode zY_92.2.1 112 = .ok (.aload_n 0, 1)) rfl
theorem zf_zm_92_33 (env : List (Nat × Nat)) : zI9 92 zY_92 zm_92 env (113, 1, 10, 15, 0) 116 := zi_getf (i := 96) (N := 22) (C := "TransportPair$Side") (ref := "TransportPair$Side") (T := zF_10) (by decide +kernel : decode zY_92.2.1 113 = .ok (.getfield 96, 3)) rfl zuw_10 (by decide) (zw_T zwd_485) rfl
theorem zf_zm_92_34 (env : List (Nat × Nat)) : zR9 92 env (116, 11, 0, 0, 0) := zi_iret (by decide +kernel : decode (zYf 92).2.1 116 = .ok (.ireturn, 1)) rfl
theorem zf_zm_92_35 (env : List (Nat × Nat)) : zI9 92 zY_92 zm_92 env (117, 0, 0, 0, 0) 118 := zi_aload_n (by decide +kernel : decode zY_92.2.1 117 = .ok (.aload_n 0, 1)) rfl
theorem zf_zm_92_36 (env : List (Nat × Nat)) : zI9 92 zY_92 zm_92 env (118, 1, 10, 5, 2) 121 := zi_getf (i := 53) (N := 22) (C := "TransportPair$Side") (ref := "TransportPair$Side") (T := zF_10) (by decide +kernel : decode zY_92.2.1 118 = .ok (.getfield 53, 3)) rfl zuw_10 (by decide) (zw_T zwd_469) rfl
theorem zf_zm_92_37 (env : List (Nat × Nat)) : zI9 92 zY_92 zm_92 env (121, 1, 2, 0, 2) 124 := zi_getf (i := 99) (N := 20) (C := "TransportPair$Book") (ref := "TransportPair$Book") (T := zF_2) (by decide +kernel : decode zY_92.2.1 121 = .ok (.getfield 99, 3)) rfl zuw_2 (by decide) (zw_T zwd_486) rfl
theorem zf_zm_92_38 (env : List (Nat × Nat)) : zI9 92 zY_92 zm_92 env (124, 2, 0, 0, 0) 125 := zi_iconst (by decide +kernel : decode zY_92.2.1 124 = .ok (.iconst 0, 1)) (by decide +kernel)
theorem zf_zm_92_39 (env : List (Nat × Nat)) : zI9 92 zY_92 zm_92 env (125, 19, 0, 0, 0) 126 := zi_aald zft_all (by decide +kernel : decode zY_92.2.1 125 = .ok (.aaload, 1))
theorem zf_zm_92_40 (env : List (Nat × Nat)) : zI9 92 zY_92 zm_92 env (126, 1, 11, 20, 0) 129 := zi_getf (i := 103) (N := 21) (C := "TransportPair$Space") (ref := "TransportPair$Space") (T := zF_11) (by decide +kernel : decode zY_92.2.1 126 = .ok (.getfield 103, 3)) rfl zuw_11 (by decide) (zw_T zwd_487) rfl
theorem zf_zm_92_41 (env : List (Nat × Nat)) : zI9 92 zY_92 zm_92 env (129, 0, 0, 0, 0) 130 := zi_aload_n (by decide +kernel : decode zY_92.2.1 129 = .ok (.aload_n 0, 1)) rfl
theorem zf_zm_92_42 (env : List (Nat × Nat)) : zI9 92 zY_92 zm_92 env (130, 1, 10, 5, 2) 133 := zi_getf (i := 53) (N := 22) (C := "TransportPair$Side") (ref := "TransportPair$Side") (T := zF_10) (by decide +kernel : decode zY_92.2.1 130 = .ok (.getfield 53, 3)) rfl zuw_10 (by decide) (zw_T zwd_469) rfl
theorem zf_zm_92_43 (env : List (Nat × Nat)) : zI9 92 zY_92 zm_92 env (133, 1, 2, 0, 2) 136 := zi_getf (i := 99) (N := 20) (C := "TransportPair$Book") (ref := "TransportPair$Book") (T := zF_2) (by decide +kernel : decode zY_92.2.1 133 = .ok (.getfield 99, 3)) rfl zuw_2 (by decide) (zw_T zwd_486) rfl
theorem zf_zm_92_44 (env : List (Nat × Nat)) : zI9 92 zY_92 zm_92 env (136, 2, 1, 0, 0) 137 := zi_iconst (by decide +kernel : decode zY_92.2.1 136 = .ok (.iconst 1, 1)) (by decide +kernel)
theorem zf_zm_92_45 (env : List (Nat × Nat)) : zI9 92 zY_92 zm_92 env (137, 19, 0, 0, 0) 138 := zi_aald zft_all (by decide +kernel : decode zY_92.2.1 137 = .ok (.aaload, 1))
theorem zf_zm_92_46 (env : List (Nat × Nat)) : zI9 92 zY_92 zm_92 env (138, 1, 11, 20, 0) 141 := zi_getf (i := 103) (N := 21) (C := "TransportPair$Space") (ref := "TransportPair$Space") (T := zF_11) (by decide +kernel : decode zY_92.2.1 138 = .ok (.getfield 103, 3)) rfl zuw_11 (by decide) (zw_T zwd_487) rfl
theorem zf_zm_92_47 (env : List (Nat × Nat)) : zI9 92 zY_92 zm_92 env (141, 9, 0, 0, 0) 142 := zi_iadd (by decide +kernel : decode zY_92.2.1 141 = .ok (.iadd, 1))
theorem zf_zm_92_48 (env : List (Nat × Nat)) : zI9 92 zY_92 zm_92 env (142, 0, 0, 0, 0) 143 := zi_aload_n (by decide +kernel : decode zY_92.2.1 142 = .ok (.aload_n 0, 1)) rfl
theorem zf_zm_92_49 (env : List (Nat × Nat)) : zI9 92 zY_92 zm_92 env (143, 1, 10, 5, 2) 146 := zi_getf (i := 53) (N := 22) (C := "TransportPair$Side") (ref := "TransportPair$Side") (T := zF_10) (by decide +kernel : decode zY_92.2.1 143 = .ok (.getfield 53, 3)) rfl zuw_10 (by decide) (zw_T zwd_469) rfl
theorem zf_zm_92_50 (env : List (Nat × Nat)) : zI9 92 zY_92 zm_92 env (146, 1, 2, 0, 2) 149 := zi_getf (i := 99) (N := 20) (C := "TransportPair$Book") (ref := "TransportPair$Book") (T := zF_2) (by decide +kernel : decode zY_92.2.1 146 = .ok (.getfield 99, 3)) rfl zuw_2 (by decide) (zw_T zwd_486) rfl
theorem zf_zm_92_51 (env : List (Nat × Nat)) : zI9 92 zY_92 zm_92 env (149, 2, 2, 0, 0) 150 := zi_iconst (by decide +kernel : decode zY_92.2.1 149 = .ok (.iconst 2, 1)) (by decide +kernel)
theorem zf_zm_92_52 (env : List (Nat × Nat)) : zI9 92 zY_92 zm_92 env (150, 19, 0, 0, 0) 151 := zi_aald zft_all (by decide +kernel : decode zY_92.2.1 150 = .ok (.aaload, 1))
theorem zf_zm_92_53 (env : List (Nat × Nat)) : zI9 92 zY_92 zm_92 env (151, 1, 11, 20, 0) 154 := zi_getf (i := 103) (N := 21) (C := "TransportPair$Space") (ref := "TransportPair$Space") (T := zF_11) (by decide +kernel : decode zY_92.2.1 151 = .ok (.getfield 103, 3)) rfl zuw_11 (by decide) (zw_T zwd_487) rfl
theorem zf_zm_92_54 (env : List (Nat × Nat)) : zI9 92 zY_92 zm_92 env (154, 9, 0, 0, 0) 155 := zi_iadd (by decide +kernel : decode zY_92.2.1 154 = .ok (.iadd, 1))
theorem zf_zm_92_55 (env : List (Nat × Nat)) : zR9 92 env (155, 11, 0, 0, 0) := zi_iret (by decide +kernel : decode (zYf 92).2.1 155 = .ok (.ireturn, 1)) rfl
theorem zf_zm_92_56 (env : List (Nat × Nat)) : zI9 92 zY_92 zm_92 env (156, 0, 0, 0, 0) 157 := zi_aload_n (by decide +kernel : decode zY_92.2.1 156 = .ok (.aload_n 0, 1)) rfl
theorem zf_zm_92_57 (env : List (Nat × Nat)) : zI9 92 zY_92 zm_92 env (157, 1, 10, 8, 2) 160 := zi_getf (i := 70) (N := 22) (C := "TransportPair$Side") (ref := "TransportPair$Side") (T := zF_10) (by decide +kernel : decode zY_92.2.1 157 = .ok (.getfield 70, 3)) rfl zuw_10 (by decide) (zw_T zwd_477) rfl
theorem zf_zm_92_58 (env : List (Nat × Nat)) : zI9 92 zY_92 zm_92 env (160, 1, 5, 16, 0) 163 := zi_getf (i := 108) (N := 22) (C := "TransportPair$Outbox") (ref := "TransportPair$Outbox") (T := zF_5) (by decide +kernel : decode zY_92.2.1 160 = .ok (.getfield 108, 3)) rfl zuw_5 (by decide) (zw_T zwd_488) rfl
theorem zf_zm_92_59 (env : List (Nat × Nat)) : zR9 92 env (163, 11, 0, 0, 0) := zi_iret (by decide +kernel : decode (zYf 92).2.1 163 = .ok (.ireturn, 1)) rfl
set_option maxRecDepth 100000 in
theorem zc_zm_92 (env : List (Nat × Nat)) : zcode zX (z_QF zEX zcl zft) (z_zm zEX zX zWL zcl zft zYf) zYf zW zET zcl zft (zGv env) 92 zm_92 zm_92.1 := ⟨Or.inl ⟨1, zf_zm_92_0 env, zpc_c⟩,
  Or.inl ⟨52, zf_zm_92_1 env, zpc_c⟩,
  Or.inl ⟨53, zf_zm_92_2 env, zpc_c⟩,
  Or.inl ⟨56, zf_zm_92_3 env, zpc_c⟩,
  Or.inr (Or.inl (zf_zm_92_4 env)),
  Or.inl ⟨58, zf_zm_92_5 env, zpc_c⟩,
  Or.inl ⟨61, zf_zm_92_6 env, zpc_c⟩,
  Or.inr (Or.inl (zf_zm_92_7 env)),
  Or.inl ⟨63, zf_zm_92_8 env, zpc_c⟩,
  Or.inl ⟨66, zf_zm_92_9 env, zpc_c⟩,
  Or.inl ⟨69, zf_zm_92_10 env, zpc_c⟩,
  Or.inl ⟨72, zf_zm_92_11 env, zpc_c⟩,
  Or.inl ⟨76, zf_zm_92_12 env, zpc_c⟩,
  Or.inl ⟨77, zf_zm_92_13 env, zpc_c⟩,
  Or.inr (Or.inl (zf_zm_92_14 env)),
  Or.inl ⟨79, zf_zm_92_15 env, zpc_c⟩,
  Or.inl ⟨82, zf_zm_92_16 env, zpc_c⟩,
  Or.inl ⟨85, zf_zm_92_17 env, zpc_c⟩,
  Or.inl ⟨89, zf_zm_92_18 env, zpc_c⟩,
  Or.inl ⟨90, zf_zm_92_19 env, zpc_c⟩,
  Or.inr (Or.inl (zf_zm_92_20 env)),
  Or.inl ⟨92, zf_zm_92_21 env, zpc_c⟩,
  Or.inl ⟨95, zf_zm_92_22 env, zpc_c⟩,
  Or.inl ⟨98, zf_zm_92_23 env, zpc_c⟩,
  Or.inr (Or.inl (zf_zm_92_24 env)),
  Or.inl ⟨100, zf_zm_92_25 env, zpc_c⟩,
  Or.inl ⟨103, zf_zm_92_26 env, zpc_c⟩,
  Or.inl ⟨106, zf_zm_92_27 env, zpc_c⟩,
  Or.inr (Or.inl (zf_zm_92_28 env)),
  Or.inl ⟨108, zf_zm_92_29 env, zpc_c⟩,
  Or.inl ⟨111, zf_zm_92_30 env, zpc_c⟩,
  Or.inr (Or.inl (zf_zm_92_31 env)),
  Or.inl ⟨113, zf_zm_92_32 env, zpc_c⟩,
  Or.inl ⟨116, zf_zm_92_33 env, zpc_c⟩,
  Or.inr (Or.inl (zf_zm_92_34 env)),
  Or.inl ⟨118, zf_zm_92_35 env, zpc_c⟩,
  Or.inl ⟨121, zf_zm_92_36 env, zpc_c⟩,
  Or.inl ⟨124, zf_zm_92_37 env, zpc_c⟩,
  Or.inl ⟨125, zf_zm_92_38 env, zpc_c⟩,
  Or.inl ⟨126, zf_zm_92_39 env, zpc_c⟩,
  Or.inl ⟨129, zf_zm_92_40 env, zpc_c⟩,
  Or.inl ⟨130, zf_zm_92_41 env, zpc_c⟩,
  Or.inl ⟨133, zf_zm_92_42 env, zpc_c⟩,
  Or.inl ⟨136, zf_zm_92_43 env, zpc_c⟩,
  Or.inl ⟨137, zf_zm_92_44 env, zpc_c⟩,
  Or.inl ⟨138, zf_zm_92_45 env, zpc_c⟩,
  Or.inl ⟨141, zf_zm_92_46 env, zpc_c⟩,
  Or.inl ⟨142, zf_zm_92_47 env, zpc_c⟩,
  Or.inl ⟨143, zf_zm_92_48 env, zpc_c⟩,
  Or.inl ⟨146, zf_zm_92_49 env, zpc_c⟩,
  Or.inl ⟨149, zf_zm_92_50 env, zpc_c⟩,
  Or.inl ⟨150, zf_zm_92_51 env, zpc_c⟩,
  Or.inl ⟨151, zf_zm_92_52 env, zpc_c⟩,
  Or.inl ⟨154, zf_zm_92_53 env, zpc_c⟩,
  Or.inl ⟨155, zf_zm_92_54 env, zpc_c⟩,
  Or.inr (Or.inl (zf_zm_92_55 env)),
  Or.inl ⟨157, zf_zm_92_56 env, zpc_c⟩,
  Or.inl ⟨160, zf_zm_92_57 env, zpc_c⟩,
  Or.inl ⟨163, zf_zm_92_58 env, zpc_c⟩,
  Or.inr (Or.inl (zf_zm_92_59 env)), trivial⟩
theorem zf_zm_93_0 (env : List (Nat × Nat)) : zI9 93 zY_93 zm_93 env (0, 0, 0, 0, 0) 1 := zi_aload_n (by decide +kernel : decode zY_93.2.1 0 = .ok (.aload_n 0, 1)) rfl
theorem zf_zm_93_1 (env : List (Nat × Nat)) : zI9 93 zY_93 zm_93 env (1, 1, 10, 10, 0) 4 := zi_getf (i := 74) (N := 22) (C := "TransportPair$Side") (ref := "TransportPair$Side") (T := zF_10) (by decide +kernel : decode zY_93.2.1 1 = .ok (.getfield 74, 3)) rfl zuw_10 (by decide) (zw_T zwd_478) rfl
theorem zf_zm_93_2 (env : List (Nat × Nat)) : zI9 93 zY_93 zm_93 env (4, 2, 1, 0, 0) 5 := zi_iconst (by decide +kernel : decode zY_93.2.1 4 = .ok (.iconst 1, 1)) (by decide +kernel)
theorem zf_zm_93_3 (env : List (Nat × Nat)) : zI9 93 zY_93 zm_93 env (5, 20, 8, 0, 0) 8 := zi_icmp_eq (off := 11) (t := 16) (by decide +kernel : decode zY_93.2.1 5 = .ok (.if_icmp .eq 11, 3)) (by decide) (by decide +kernel)
theorem zf_zm_93_4 (env : List (Nat × Nat)) : zI9 93 zY_93 zm_93 env (8, 0, 0, 0, 0) 9 := zi_aload_n (by decide +kernel : decode zY_93.2.1 8 = .ok (.aload_n 0, 1)) rfl
theorem zf_zm_93_5 (env : List (Nat × Nat)) : zI9 93 zY_93 zm_93 env (9, 1, 10, 10, 0) 12 := zi_getf (i := 74) (N := 22) (C := "TransportPair$Side") (ref := "TransportPair$Side") (T := zF_10) (by decide +kernel : decode zY_93.2.1 9 = .ok (.getfield 74, 3)) rfl zuw_10 (by decide) (zw_T zwd_478) rfl
theorem zf_zm_93_6 (env : List (Nat × Nat)) : zI9 93 zY_93 zm_93 env (12, 2, 2, 0, 0) 13 := zi_iconst (by decide +kernel : decode zY_93.2.1 12 = .ok (.iconst 2, 1)) (by decide +kernel)
theorem zf_zm_93_7 (env : List (Nat × Nat)) : zI9 93 zY_93 zm_93 env (13, 29, 9, 0, 0) 16 := zi_icmp_ne (off := 7) (t := 20) (by decide +kernel : decode zY_93.2.1 13 = .ok (.if_icmp .ne 7, 3)) (by decide) (by decide +kernel)
theorem zf_zm_93_8 (env : List (Nat × Nat)) : zI9 93 zY_93 zm_93 env (16, 99, 0, 0, 0) 20 := zi_none
theorem zf_zm_93_9 (env : List (Nat × Nat)) : zI9 93 zY_93 zm_93 env (20, 2, 0, 0, 0) 21 := zi_iconst (by decide +kernel : decode zY_93.2.1 20 = .ok (.iconst 0, 1)) (by decide +kernel)
theorem zf_zm_93_10 (env : List (Nat × Nat)) : zR9 93 env (21, 11, 3, 0, 0) := zi_zret (by decide +kernel : decode (zYf 93).2.1 21 = .ok (.ireturn, 1)) rfl
set_option maxRecDepth 100000 in
theorem zc_zm_93 (env : List (Nat × Nat)) : zcode zX (z_QF zEX zcl zft) (z_zm zEX zX zWL zcl zft zYf) zYf zW zET zcl zft (zGv env) 93 zm_93 zm_93.1 := ⟨Or.inl ⟨1, zf_zm_93_0 env, zpc_c⟩,
  Or.inl ⟨4, zf_zm_93_1 env, zpc_c⟩,
  Or.inl ⟨5, zf_zm_93_2 env, zpc_c⟩,
  Or.inl ⟨8, zf_zm_93_3 env, zpc_c⟩,
  Or.inl ⟨9, zf_zm_93_4 env, zpc_c⟩,
  Or.inl ⟨12, zf_zm_93_5 env, zpc_c⟩,
  Or.inl ⟨13, zf_zm_93_6 env, zpc_c⟩,
  Or.inl ⟨16, zf_zm_93_7 env, zpc_c⟩,
  Or.inl ⟨20, zf_zm_93_8 env, zpc_c⟩,
  Or.inl ⟨21, zf_zm_93_9 env, zpc_c⟩,
  Or.inr (Or.inl (zf_zm_93_10 env)), trivial⟩
theorem zf_zm_94_0 (env : List (Nat × Nat)) : zI9 94 zY_94 zm_94 env (0, 0, 0, 0, 0) 1 := zi_aload_n (by decide +kernel : decode zY_94.2.1 0 = .ok (.aload_n 0, 1)) rfl
theorem zf_zm_94_1 (env : List (Nat × Nat)) : zC9 94 zm_94 env (1, 66, 93, 65, 12) := zi_call (by decide +kernel) (zr_V (i := 200) (n := 0) (q := ("TransportPair$Side", zF_10, 22)) zX_ok rfl (zgood_93) (by decide +kernel) (zw_T zwd_113) (zw_T zwd_489) (zw_T zwd_490) rfl (zw_T (zt_sel (y := ⟨"TransportPair$Side","isLive","()Z"⟩) (n := 22) 15 (by decide +kernel))) ⟨by decide +kernel, by decide +kernel, by decide +kernel⟩ rfl (by decide +kernel : decode (zYf 94).2.1 1 = .ok (.invokevirtual 200, 3)))
theorem zf_zm_94_2 (env : List (Nat × Nat)) : zI9 94 zY_94 zm_94 env (4, 6, 5, 0, 0) 7 := zi_if_ne (off := 5) (t := 9) (by decide +kernel : decode zY_94.2.1 4 = .ok (.ifCond .ne 5, 3)) (by decide) (by decide +kernel)
theorem zf_zm_94_3 (env : List (Nat × Nat)) : zI9 94 zY_94 zm_94 env (7, 2, 0, 0, 0) 8 := zi_iconst (by decide +kernel : decode zY_94.2.1 7 = .ok (.iconst 0, 1)) (by decide +kernel)
theorem zf_zm_94_4 (env : List (Nat × Nat)) : zR9 94 env (8, 11, 3, 0, 0) := zi_zret (by decide +kernel : decode (zYf 94).2.1 8 = .ok (.ireturn, 1)) rfl
theorem zf_zm_94_5 (env : List (Nat × Nat)) : zI9 94 zY_94 zm_94 env (9, 99, 0, 0, 0) 0 := zi_none
set_option maxRecDepth 100000 in
theorem zc_zm_94 (env : List (Nat × Nat)) : zcode zX (z_QF zEX zcl zft) (z_zm zEX zX zWL zcl zft zYf) zYf zW zET zcl zft (zGv env) 94 zm_94 zm_94.1 := ⟨Or.inl ⟨1, zf_zm_94_0 env, zpc_c⟩,
  Or.inr (Or.inr (Or.inl ⟨zf_zm_94_1 env, zpc_c⟩)),
  Or.inl ⟨7, zf_zm_94_2 env, zpc_c⟩,
  Or.inl ⟨8, zf_zm_94_3 env, zpc_c⟩,
  Or.inr (Or.inl (zf_zm_94_4 env)),
  Or.inl ⟨0, zf_zm_94_5 env, zpc_n⟩, trivial⟩
theorem zf_zm_95_0 (env : List (Nat × Nat)) : zI9 95 zY_95 zm_95 env (0, 0, 0, 0, 0) 1 := zi_aload_n (by decide +kernel : decode zY_95.2.1 0 = .ok (.aload_n 0, 1)) rfl
theorem zf_zm_95_1 (env : List (Nat × Nat)) : zI9 95 zY_95 zm_95 env (1, 1, 10, 5, 2) 4 := zi_getf (i := 53) (N := 22) (C := "TransportPair$Side") (ref := "TransportPair$Side") (T := zF_10) (by decide +kernel : decode zY_95.2.1 1 = .ok (.getfield 53, 3)) rfl zuw_10 (by decide) (zw_T zwd_469) rfl
theorem zf_zm_95_2 (env : List (Nat × Nat)) : zC9 95 zm_95 env (4, 66, 81, 69, 4) := zi_call (by decide +kernel) (zr_V (i := 516) (n := 0) (q := ("TransportPair$Book", zF_2, 20)) zX_ok rfl (zgood_81) (by decide +kernel) (zw_T zwd_192) (zw_T zwd_491) (zw_T zwd_492) rfl (zw_T zwd_493) ⟨by decide +kernel, by decide +kernel, by decide +kernel⟩ rfl (by decide +kernel : decode (zYf 95).2.1 4 = .ok (.invokevirtual 516, 3)))
theorem zf_zm_95_3 (env : List (Nat × Nat)) : zI9 95 zY_95 zm_95 env (7, 10, 2, 0, 0) 8 := zi_istore_n (by decide +kernel : decode zY_95.2.1 7 = .ok (.istore_n 2, 1)) rfl (by decide)
theorem zf_zm_95_4 (env : List (Nat × Nat)) : zI9 95 zY_95 zm_95 env (8, 0, 0, 0, 0) 9 := zi_aload_n (by decide +kernel : decode zY_95.2.1 8 = .ok (.aload_n 0, 1)) rfl
theorem zf_zm_95_5 (env : List (Nat × Nat)) : zI9 95 zY_95 zm_95 env (9, 1, 10, 10, 0) 12 := zi_getf (i := 74) (N := 22) (C := "TransportPair$Side") (ref := "TransportPair$Side") (T := zF_10) (by decide +kernel : decode zY_95.2.1 9 = .ok (.getfield 74, 3)) rfl zuw_10 (by decide) (zw_T zwd_478) rfl
theorem zf_zm_95_6 (env : List (Nat × Nat)) : zI9 95 zY_95 zm_95 env (12, 2, 3, 0, 0) 13 := zi_iconst (by decide +kernel : decode zY_95.2.1 12 = .ok (.iconst 3, 1)) (by decide +kernel)
theorem zf_zm_95_7 (env : List (Nat × Nat)) : zI9 95 zY_95 zm_95 env (13, 20, 12, 0, 0) 16 := zi_icmp_eq (off := 11) (t := 24) (by decide +kernel : decode zY_95.2.1 13 = .ok (.if_icmp .eq 11, 3)) (by decide) (by decide +kernel)
theorem zf_zm_95_8 (env : List (Nat × Nat)) : zI9 95 zY_95 zm_95 env (16, 0, 0, 0, 0) 17 := zi_aload_n (by decide +kernel : decode zY_95.2.1 16 = .ok (.aload_n 0, 1)) rfl
theorem zf_zm_95_9 (env : List (Nat × Nat)) : zI9 95 zY_95 zm_95 env (17, 1, 10, 10, 0) 20 := zi_getf (i := 74) (N := 22) (C := "TransportPair$Side") (ref := "TransportPair$Side") (T := zF_10) (by decide +kernel : decode zY_95.2.1 17 = .ok (.getfield 74, 3)) rfl zuw_10 (by decide) (zw_T zwd_478) rfl
theorem zf_zm_95_10 (env : List (Nat × Nat)) : zI9 95 zY_95 zm_95 env (20, 2, 4, 0, 0) 21 := zi_iconst (by decide +kernel : decode zY_95.2.1 20 = .ok (.iconst 4, 1)) (by decide +kernel)
theorem zf_zm_95_11 (env : List (Nat × Nat)) : zI9 95 zY_95 zm_95 env (21, 29, 13, 0, 0) 24 := zi_icmp_ne (off := 32) (t := 53) (by decide +kernel : decode zY_95.2.1 21 = .ok (.if_icmp .ne 32, 3)) (by decide) (by decide +kernel)
theorem zf_zm_95_12 (env : List (Nat × Nat)) : zI9 95 zY_95 zm_95 env (24, 99, 0, 0, 0) 53 := zi_none
theorem zf_zm_95_13 (env : List (Nat × Nat)) : zI9 95 zY_95 zm_95 env (53, 0, 0, 0, 0) 54 := zi_aload_n (by decide +kernel : decode zY_95.2.1 53 = .ok (.aload_n 0, 1)) rfl
theorem zf_zm_95_14 (env : List (Nat × Nat)) : zC9 95 zm_95 env (54, 66, 93, 65, 12) := zi_call (by decide +kernel) (zr_V (i := 200) (n := 0) (q := ("TransportPair$Side", zF_10, 22)) zX_ok rfl (zgood_93) (by decide +kernel) (zw_T zwd_113) (zw_T zwd_489) (zw_T zwd_490) rfl (zw_T (zt_sel (y := ⟨"TransportPair$Side","isLive","()Z"⟩) (n := 22) 15 (by decide +kernel))) ⟨by decide +kernel, by decide +kernel, by decide +kernel⟩ rfl (by decide +kernel : decode (zYf 95).2.1 54 = .ok (.invokevirtual 200, 3)))
theorem zf_zm_95_15 (env : List (Nat × Nat)) : zI9 95 zY_95 zm_95 env (57, 5, 17, 0, 0) 60 := zi_if_eq (off := 46) (t := 103) (by decide +kernel : decode zY_95.2.1 57 = .ok (.ifCond .eq 46, 3)) (by decide) (by decide +kernel)
theorem zf_zm_95_16 (env : List (Nat × Nat)) : zI9 95 zY_95 zm_95 env (60, 99, 0, 0, 0) 103 := zi_none
theorem zf_zm_95_17 (env : List (Nat × Nat)) : zI9 95 zY_95 zm_95 env (103, 2, 0, 0, 0) 104 := zi_iconst (by decide +kernel : decode zY_95.2.1 103 = .ok (.iconst 0, 1)) (by decide +kernel)
theorem zf_zm_95_18 (env : List (Nat × Nat)) : zI9 95 zY_95 zm_95 env (104, 10, 3, 0, 0) 105 := zi_istore_n (by decide +kernel : decode zY_95.2.1 104 = .ok (.istore_n 3, 1)) rfl (by decide)
theorem zf_zm_95_19 (env : List (Nat × Nat)) : zI9 95 zY_95 zm_95 env (105, 63, 3, 0, 0) 106 := zi_iload_n (by decide +kernel : decode zY_95.2.1 105 = .ok (.iload_n 3, 1)) rfl
theorem zf_zm_95_20 (env : List (Nat × Nat)) : zI9 95 zY_95 zm_95 env (106, 2, 16, 0, 0) 108 := zi_bipush (by decide +kernel : decode zY_95.2.1 106 = .ok (.bipush 16, 2)) (by decide +kernel)
theorem zf_zm_95_21 (env : List (Nat × Nat)) : zI9 95 zY_95 zm_95 env (108, 28, 30, 0, 0) 111 := zi_icmp_ge (off := 165) (t := 273) (by decide +kernel : decode zY_95.2.1 108 = .ok (.if_icmp .ge 165, 3)) (by decide) (by decide +kernel)
theorem zf_zm_95_22 (env : List (Nat × Nat)) : zI9 95 zY_95 zm_95 env (111, 0, 0, 0, 0) 112 := zi_aload_n (by decide +kernel : decode zY_95.2.1 111 = .ok (.aload_n 0, 1)) rfl
theorem zf_zm_95_23 (env : List (Nat × Nat)) : zC9 95 zm_95 env (112, 66, 93, 65, 12) := zi_call (by decide +kernel) (zr_V (i := 200) (n := 0) (q := ("TransportPair$Side", zF_10, 22)) zX_ok rfl (zgood_93) (by decide +kernel) (zw_T zwd_113) (zw_T zwd_489) (zw_T zwd_490) rfl (zw_T (zt_sel (y := ⟨"TransportPair$Side","isLive","()Z"⟩) (n := 22) 15 (by decide +kernel))) ⟨by decide +kernel, by decide +kernel, by decide +kernel⟩ rfl (by decide +kernel : decode (zYf 95).2.1 112 = .ok (.invokevirtual 200, 3)))
theorem zf_zm_95_24 (env : List (Nat × Nat)) : zI9 95 zY_95 zm_95 env (115, 6, 29, 0, 0) 118 := zi_if_ne (off := 11) (t := 126) (by decide +kernel : decode zY_95.2.1 115 = .ok (.ifCond .ne 11, 3)) (by decide) (by decide +kernel)
theorem zf_zm_95_25 (env : List (Nat × Nat)) : zI9 95 zY_95 zm_95 env (118, 0, 0, 0, 0) 119 := zi_aload_n (by decide +kernel : decode zY_95.2.1 118 = .ok (.aload_n 0, 1)) rfl
theorem zf_zm_95_26 (env : List (Nat × Nat)) : zI9 95 zY_95 zm_95 env (119, 1, 10, 10, 0) 122 := zi_getf (i := 74) (N := 22) (C := "TransportPair$Side") (ref := "TransportPair$Side") (T := zF_10) (by decide +kernel : decode zY_95.2.1 119 = .ok (.getfield 74, 3)) rfl zuw_10 (by decide) (zw_T zwd_478) rfl
theorem zf_zm_95_27 (env : List (Nat × Nat)) : zI9 95 zY_95 zm_95 env (122, 2, 3, 0, 0) 123 := zi_iconst (by decide +kernel : decode zY_95.2.1 122 = .ok (.iconst 3, 1)) (by decide +kernel)
theorem zf_zm_95_28 (env : List (Nat × Nat)) : zI9 95 zY_95 zm_95 env (123, 29, 30, 0, 0) 126 := zi_icmp_ne (off := 150) (t := 273) (by decide +kernel : decode zY_95.2.1 123 = .ok (.if_icmp .ne 150, 3)) (by decide) (by decide +kernel)
theorem zf_zm_95_29 (env : List (Nat × Nat)) : zI9 95 zY_95 zm_95 env (126, 99, 0, 0, 0) 273 := zi_none
theorem zf_zm_95_30 (env : List (Nat × Nat)) : zR9 95 env (273, 21, 0, 0, 0) := zi_vret (by decide +kernel : decode (zYf 95).2.1 273 = .ok (.return_, 1)) rfl
set_option maxRecDepth 100000 in
theorem zc_zm_95 (env : List (Nat × Nat)) : zcode zX (z_QF zEX zcl zft) (z_zm zEX zX zWL zcl zft zYf) zYf zW zET zcl zft (zGv env) 95 zm_95 zm_95.1 := ⟨Or.inl ⟨1, zf_zm_95_0 env, zpc_c⟩,
  Or.inl ⟨4, zf_zm_95_1 env, zpc_c⟩,
  Or.inr (Or.inr (Or.inl ⟨zf_zm_95_2 env, zpc_c⟩)),
  Or.inl ⟨8, zf_zm_95_3 env, zpc_c⟩,
  Or.inl ⟨9, zf_zm_95_4 env, zpc_c⟩,
  Or.inl ⟨12, zf_zm_95_5 env, zpc_c⟩,
  Or.inl ⟨13, zf_zm_95_6 env, zpc_c⟩,
  Or.inl ⟨16, zf_zm_95_7 env, zpc_c⟩,
  Or.inl ⟨17, zf_zm_95_8 env, zpc_c⟩,
  Or.inl ⟨20, zf_zm_95_9 env, zpc_c⟩,
  Or.inl ⟨21, zf_zm_95_10 env, zpc_c⟩,
  Or.inl ⟨24, zf_zm_95_11 env, zpc_c⟩,
  Or.inl ⟨53, zf_zm_95_12 env, zpc_c⟩,
  Or.inl ⟨54, zf_zm_95_13 env, zpc_c⟩,
  Or.inr (Or.inr (Or.inl ⟨zf_zm_95_14 env, zpc_c⟩)),
  Or.inl ⟨60, zf_zm_95_15 env, zpc_c⟩,
  Or.inl ⟨103, zf_zm_95_16 env, zpc_c⟩,
  Or.inl ⟨104, zf_zm_95_17 env, zpc_c⟩,
  Or.inl ⟨105, zf_zm_95_18 env, zpc_c⟩,
  Or.inl ⟨106, zf_zm_95_19 env, zpc_c⟩,
  Or.inl ⟨108, zf_zm_95_20 env, zpc_c⟩,
  Or.inl ⟨111, zf_zm_95_21 env, zpc_c⟩,
  Or.inl ⟨112, zf_zm_95_22 env, zpc_c⟩,
  Or.inr (Or.inr (Or.inl ⟨zf_zm_95_23 env, zpc_c⟩)),
  Or.inl ⟨118, zf_zm_95_24 env, zpc_c⟩,
  Or.inl ⟨119, zf_zm_95_25 env, zpc_c⟩,
  Or.inl ⟨122, zf_zm_95_26 env, zpc_c⟩,
  Or.inl ⟨123, zf_zm_95_27 env, zpc_c⟩,
  Or.inl ⟨126, zf_zm_95_28 env, zpc_c⟩,
  Or.inl ⟨273, zf_zm_95_29 env, zpc_c⟩,
  Or.inr (Or.inl (zf_zm_95_30 env)), trivial⟩
theorem zf_zm_96_0 (env : List (Nat × Nat)) : zI9 96 zY_96 zm_96 env (0, 0, 0, 0, 0) 1 := zi_aload_n (by decide +kernel : decode zY_96.2.1 0 = .ok (.aload_n 0, 1)) rfl
theorem zf_zm_96_1 (env : List (Nat × Nat)) : zI9 96 zY_96 zm_96 env (1, 60, 0, 0, 0) 4 := zi_obj (i := 1) (by decide +kernel : decode zY_96.2.1 1 = .ok (.invokespecial 1, 3)) (zw_T zwd_494) (zw_T zwd_11) (zw_T zwd_12)
theorem zf_zm_96_2 (env : List (Nat × Nat)) : zI9 96 zY_96 zm_96 env (4, 0, 0, 0, 0) 5 := zi_aload_n (by decide +kernel : decode zY_96.2.1 4 = .ok (.aload_n 0, 1)) rfl
theorem zf_zm_96_3 (env : List (Nat × Nat)) : zI9 96 zY_96 zm_96 env (5, 2, 80, 0, 0) 7 := zi_bipush (by decide +kernel : decode zY_96.2.1 5 = .ok (.bipush 80, 2)) (by decide +kernel)
theorem zf_zm_96_4 (env : List (Nat × Nat)) : zI9 96 zY_96 zm_96 env (7, 12, 0, 0, 0) 9 := zi_newI (by decide +kernel : decode zY_96.2.1 7 = .ok (.newarray .int, 2)) (zw_T zwd_16) rfl rfl (by decide) rfl
theorem zf_zm_96_5 (env : List (Nat × Nat)) : zI9 96 zY_96 zm_96 env (9, 4, 11, 0, 2) 12 := zi_putf (i := 9) (N := 21) (C := "TransportPair$Space") (ref := "TransportPair$Space") (T := zF_11) (by decide +kernel : decode zY_96.2.1 9 = .ok (.putfield 9, 3)) rfl zuw_11 zFt_11 zFn_11 (by decide) (zw_T zwd_495) rfl rfl (ty := .array .int) (by decide +kernel) (Or.inr ⟨_, rfl⟩)
theorem zf_zm_96_6 (env : List (Nat × Nat)) : zI9 96 zY_96 zm_96 env (12, 0, 0, 0, 0) 13 := zi_aload_n (by decide +kernel : decode zY_96.2.1 12 = .ok (.aload_n 0, 1)) rfl
theorem zf_zm_96_7 (env : List (Nat × Nat)) : zI9 96 zY_96 zm_96 env (13, 2, 4294967295, 0, 0) 14 := zi_iconst (by decide +kernel : decode zY_96.2.1 13 = .ok (.iconst (-1), 1)) (by decide +kernel)
theorem zf_zm_96_8 (env : List (Nat × Nat)) : zI9 96 zY_96 zm_96 env (14, 4, 11, 2, 0) 17 := zi_putf (i := 13) (N := 21) (C := "TransportPair$Space") (ref := "TransportPair$Space") (T := zF_11) (by decide +kernel : decode zY_96.2.1 14 = .ok (.putfield 13, 3)) rfl zuw_11 zFt_11 zFn_11 (by decide) (zw_T zwd_496) rfl rfl (ty := .int) (by decide +kernel) (rfl)
theorem zf_zm_96_9 (env : List (Nat × Nat)) : zI9 96 zY_96 zm_96 env (17, 0, 0, 0, 0) 18 := zi_aload_n (by decide +kernel : decode zY_96.2.1 17 = .ok (.aload_n 0, 1)) rfl
theorem zf_zm_96_10 (env : List (Nat × Nat)) : zI9 96 zY_96 zm_96 env (18, 2, 4294967295, 0, 0) 19 := zi_iconst (by decide +kernel : decode zY_96.2.1 18 = .ok (.iconst (-1), 1)) (by decide +kernel)
theorem zf_zm_96_11 (env : List (Nat × Nat)) : zI9 96 zY_96 zm_96 env (19, 4, 11, 3, 0) 22 := zi_putf (i := 17) (N := 21) (C := "TransportPair$Space") (ref := "TransportPair$Space") (T := zF_11) (by decide +kernel : decode zY_96.2.1 19 = .ok (.putfield 17, 3)) rfl zuw_11 zFt_11 zFn_11 (by decide) (zw_T zwd_497) rfl rfl (ty := .int) (by decide +kernel) (rfl)
theorem zf_zm_96_12 (env : List (Nat × Nat)) : zI9 96 zY_96 zm_96 env (22, 0, 0, 0, 0) 23 := zi_aload_n (by decide +kernel : decode zY_96.2.1 22 = .ok (.aload_n 0, 1)) rfl
theorem zf_zm_96_13 (env : List (Nat × Nat)) : zI9 96 zY_96 zm_96 env (23, 2, 65, 0, 0) 25 := zi_bipush (by decide +kernel : decode zY_96.2.1 23 = .ok (.bipush 65, 2)) (by decide +kernel)
theorem zf_zm_96_14 (env : List (Nat × Nat)) : zI9 96 zY_96 zm_96 env (25, 12, 1, 3, 0) 27 := zi_newL (by decide +kernel : decode zY_96.2.1 25 = .ok (.newarray .long, 2)) (zw_T zwd_13) rfl rfl
theorem zf_zm_96_15 (env : List (Nat × Nat)) : zI9 96 zY_96 zm_96 env (27, 4, 11, 9, 2) 30 := zi_putfF (i := 20) (N := 21) (C := "TransportPair$Space") (ref := "TransportPair$Space") (T := zF_11) (by decide +kernel : decode zY_96.2.1 27 = .ok (.putfield 20, 3)) rfl zuw_11 zFt_11 zFn_11 (by decide) (zw_T zwd_498) rfl rfl rfl rfl (ty := .array .long) (by decide +kernel) (Or.inr ⟨_, rfl⟩)
theorem zf_zm_96_16 (env : List (Nat × Nat)) : zI9 96 zY_96 zm_96 env (30, 0, 0, 0, 0) 31 := zi_aload_n (by decide +kernel : decode zY_96.2.1 30 = .ok (.aload_n 0, 1)) rfl
theorem zf_zm_96_17 (env : List (Nat × Nat)) : zI9 96 zY_96 zm_96 env (31, 2, 65, 0, 0) 33 := zi_bipush (by decide +kernel : decode zY_96.2.1 31 = .ok (.bipush 65, 2)) (by decide +kernel)
theorem zf_zm_96_18 (env : List (Nat × Nat)) : zI9 96 zY_96 zm_96 env (33, 12, 1, 3, 0) 35 := zi_newL (by decide +kernel : decode zY_96.2.1 33 = .ok (.newarray .long, 2)) (zw_T zwd_13) rfl rfl
theorem zf_zm_96_19 (env : List (Nat × Nat)) : zI9 96 zY_96 zm_96 env (35, 4, 11, 10, 2) 38 := zi_putfF (i := 24) (N := 21) (C := "TransportPair$Space") (ref := "TransportPair$Space") (T := zF_11) (by decide +kernel : decode zY_96.2.1 35 = .ok (.putfield 24, 3)) rfl zuw_11 zFt_11 zFn_11 (by decide) (zw_T zwd_499) rfl rfl rfl rfl (ty := .array .long) (by decide +kernel) (Or.inr ⟨_, rfl⟩)
theorem zf_zm_96_20 (env : List (Nat × Nat)) : zI9 96 zY_96 zm_96 env (38, 0, 0, 0, 0) 39 := zi_aload_n (by decide +kernel : decode zY_96.2.1 38 = .ok (.aload_n 0, 1)) rfl
theorem zf_zm_96_21 (env : List (Nat × Nat)) : zI9 96 zY_96 zm_96 env (39, 2, 76, 0, 0) 41 := zi_bipush (by decide +kernel : decode zY_96.2.1 39 = .ok (.bipush 76, 2)) (by decide +kernel)
theorem zf_zm_96_22 (env : List (Nat × Nat)) : zI9 96 zY_96 zm_96 env (41, 12, 0, 1, 0) 43 := zi_newI (by decide +kernel : decode zY_96.2.1 41 = .ok (.newarray .byte, 2)) (zw_T zwd_79) rfl rfl (by decide) rfl
theorem zf_zm_96_23 (env : List (Nat × Nat)) : zI9 96 zY_96 zm_96 env (43, 4, 11, 18, 2) 46 := zi_putfF (i := 29) (N := 21) (C := "TransportPair$Space") (ref := "TransportPair$Space") (T := zF_11) (by decide +kernel : decode zY_96.2.1 43 = .ok (.putfield 29, 3)) rfl zuw_11 zFt_11 zFn_11 (by decide) (zw_T zwd_500) rfl rfl rfl rfl (ty := .array .byte) (by decide +kernel) (Or.inr ⟨_, rfl⟩)
theorem zf_zm_96_24 (env : List (Nat × Nat)) : zI9 96 zY_96 zm_96 env (46, 0, 0, 0, 0) 47 := zi_aload_n (by decide +kernel : decode zY_96.2.1 46 = .ok (.aload_n 0, 1)) rfl
theorem zf_zm_96_25 (env : List (Nat × Nat)) : zI9 96 zY_96 zm_96 env (47, 2, 76, 0, 0) 49 := zi_bipush (by decide +kernel : decode zY_96.2.1 47 = .ok (.bipush 76, 2)) (by decide +kernel)
theorem zf_zm_96_26 (env : List (Nat × Nat)) : zI9 96 zY_96 zm_96 env (49, 12, 0, 1, 0) 51 := zi_newI (by decide +kernel : decode zY_96.2.1 49 = .ok (.newarray .byte, 2)) (zw_T zwd_79) rfl rfl (by decide) rfl
theorem zf_zm_96_27 (env : List (Nat × Nat)) : zI9 96 zY_96 zm_96 env (51, 4, 11, 19, 2) 54 := zi_putfF (i := 33) (N := 21) (C := "TransportPair$Space") (ref := "TransportPair$Space") (T := zF_11) (by decide +kernel : decode zY_96.2.1 51 = .ok (.putfield 33, 3)) rfl zuw_11 zFt_11 zFn_11 (by decide) (zw_T zwd_501) rfl rfl rfl rfl (ty := .array .byte) (by decide +kernel) (Or.inr ⟨_, rfl⟩)
theorem zf_zm_96_28 (env : List (Nat × Nat)) : zR9 96 env (54, 21, 0, 0, 0) := zi_vret (by decide +kernel : decode (zYf 96).2.1 54 = .ok (.return_, 1)) rfl
set_option maxRecDepth 100000 in
theorem zc_zm_96 (env : List (Nat × Nat)) : zcode zX (z_QF zEX zcl zft) (z_zm zEX zX zWL zcl zft zYf) zYf zW zET zcl zft (zGv env) 96 zm_96 zm_96.1 := ⟨Or.inl ⟨1, zf_zm_96_0 env, zpc_c⟩,
  Or.inl ⟨4, zf_zm_96_1 env, zpc_c⟩,
  Or.inl ⟨5, zf_zm_96_2 env, zpc_c⟩,
  Or.inl ⟨7, zf_zm_96_3 env, zpc_c⟩,
  Or.inl ⟨9, zf_zm_96_4 env, zpc_c⟩,
  Or.inl ⟨12, zf_zm_96_5 env, zpc_c⟩,
  Or.inl ⟨13, zf_zm_96_6 env, zpc_c⟩,
  Or.inl ⟨14, zf_zm_96_7 env, zpc_c⟩,
  Or.inl ⟨17, zf_zm_96_8 env, zpc_c⟩,
  Or.inl ⟨18, zf_zm_96_9 env, zpc_c⟩,
  Or.inl ⟨19, zf_zm_96_10 env, zpc_c⟩,
  Or.inl ⟨22, zf_zm_96_11 env, zpc_c⟩,
  Or.inl ⟨23, zf_zm_96_12 env, zpc_c⟩,
  Or.inl ⟨25, zf_zm_96_13 env, zpc_c⟩,
  Or.inl ⟨27, zf_zm_96_14 env, zpc_c⟩,
  Or.inl ⟨30, zf_zm_96_15 env, zpc_c⟩,
  Or.inl ⟨31, zf_zm_96_16 env, zpc_c⟩,
  Or.inl ⟨33, zf_zm_96_17 env, zpc_c⟩,
  Or.inl ⟨35, zf_zm_96_18 env, zpc_c⟩,
  Or.inl ⟨38, zf_zm_96_19 env, zpc_c⟩,
  Or.inl ⟨39, zf_zm_96_20 env, zpc_c⟩,
  Or.inl ⟨41, zf_zm_96_21 env, zpc_c⟩,
  Or.inl ⟨43, zf_zm_96_22 env, zpc_c⟩,
  Or.inl ⟨46, zf_zm_96_23 env, zpc_c⟩,
  Or.inl ⟨47, zf_zm_96_24 env, zpc_c⟩,
  Or.inl ⟨49, zf_zm_96_25 env, zpc_c⟩,
  Or.inl ⟨51, zf_zm_96_26 env, zpc_c⟩,
  Or.inl ⟨54, zf_zm_96_27 env, zpc_c⟩,
  Or.inr (Or.inl (zf_zm_96_28 env)), trivial⟩
theorem zf_zm_97_0 (env : List (Nat × Nat)) : zI9 97 zY_97 zm_97 env (0, 0, 0, 0, 0) 1 := zi_aload_n (by decide +kernel : decode zY_97.2.1 0 = .ok (.aload_n 0, 1)) rfl
theorem zf_zm_97_1 (env : List (Nat × Nat)) : zI9 97 zY_97 zm_97 env (1, 60, 0, 0, 0) 4 := zi_obj (i := 1) (by decide +kernel : decode zY_97.2.1 1 = .ok (.invokespecial 1, 3)) (zw_T zwd_502) (zw_T zwd_11) (zw_T zwd_12)
theorem zf_zm_97_2 (env : List (Nat × Nat)) : zI9 97 zY_97 zm_97 env (4, 0, 0, 0, 0) 5 := zi_aload_n (by decide +kernel : decode zY_97.2.1 4 = .ok (.aload_n 0, 1)) rfl
theorem zf_zm_97_3 (env : List (Nat × Nat)) : zI9 97 zY_97 zm_97 env (5, 2, 256, 0, 0) 8 := zi_sipush (by decide +kernel : decode zY_97.2.1 5 = .ok (.sipush 256, 3)) (by decide +kernel)
theorem zf_zm_97_4 (env : List (Nat × Nat)) : zI9 97 zY_97 zm_97 env (8, 38, 0, 9, 0) 11 := zi_newA (i := 9) (C := "TransportPair$Sending") (by decide +kernel : decode zY_97.2.1 8 = .ok (.anewarray 9, 3)) (zw_T zwd_503) (zw_N zwd_381) (fun _ _ _ h => h) rfl
theorem zf_zm_97_5 (env : List (Nat × Nat)) : zI9 97 zY_97 zm_97 env (11, 4, 12, 2, 2) 14 := zi_putfF (i := 11) (N := 21) (C := "TransportPair$Streams") (ref := "TransportPair$Streams") (T := zF_12) (by decide +kernel : decode zY_97.2.1 11 = .ok (.putfield 11, 3)) rfl zuw_12 zFt_12 zFn_12 (by decide) (zw_T zwd_504) rfl rfl rfl rfl (ty := .array (.object "TransportPair$Sending")) (by decide +kernel) (Or.inr ⟨_, rfl⟩)
theorem zf_zm_97_6 (env : List (Nat × Nat)) : zI9 97 zY_97 zm_97 env (14, 0, 0, 0, 0) 15 := zi_aload_n (by decide +kernel : decode zY_97.2.1 14 = .ok (.aload_n 0, 1)) rfl
theorem zf_zm_97_7 (env : List (Nat × Nat)) : zI9 97 zY_97 zm_97 env (15, 2, 256, 0, 0) 18 := zi_sipush (by decide +kernel : decode zY_97.2.1 15 = .ok (.sipush 256, 3)) (by decide +kernel)
theorem zf_zm_97_8 (env : List (Nat × Nat)) : zI9 97 zY_97 zm_97 env (18, 38, 0, 10, 0) 21 := zi_newA (i := 15) (C := "TransportPair$Receiving") (by decide +kernel : decode zY_97.2.1 18 = .ok (.anewarray 15, 3)) (zw_T zwd_505) (zw_N zwd_388) (fun _ _ _ h => h) rfl
theorem zf_zm_97_9 (env : List (Nat × Nat)) : zI9 97 zY_97 zm_97 env (21, 4, 12, 3, 2) 24 := zi_putfF (i := 17) (N := 21) (C := "TransportPair$Streams") (ref := "TransportPair$Streams") (T := zF_12) (by decide +kernel : decode zY_97.2.1 21 = .ok (.putfield 17, 3)) rfl zuw_12 zFt_12 zFn_12 (by decide) (zw_T zwd_506) rfl rfl rfl rfl (ty := .array (.object "TransportPair$Receiving")) (by decide +kernel) (Or.inr ⟨_, rfl⟩)
theorem zf_zm_97_10 (env : List (Nat × Nat)) : zI9 97 zY_97 zm_97 env (24, 0, 0, 0, 0) 25 := zi_aload_n (by decide +kernel : decode zY_97.2.1 24 = .ok (.aload_n 0, 1)) rfl
theorem zf_zm_97_11 (env : List (Nat × Nat)) : zI9 97 zY_97 zm_97 env (25, 2, 256, 0, 0) 28 := zi_sipush (by decide +kernel : decode zY_97.2.1 25 = .ok (.sipush 256, 3)) (by decide +kernel)
theorem zf_zm_97_12 (env : List (Nat × Nat)) : zI9 97 zY_97 zm_97 env (28, 12, 0, 2, 0) 30 := zi_newI (by decide +kernel : decode zY_97.2.1 28 = .ok (.newarray .boolean, 2)) (zw_T zwd_43) rfl rfl (by decide) rfl
theorem zf_zm_97_13 (env : List (Nat × Nat)) : zI9 97 zY_97 zm_97 env (30, 4, 12, 4, 2) 33 := zi_putfF (i := 21) (N := 21) (C := "TransportPair$Streams") (ref := "TransportPair$Streams") (T := zF_12) (by decide +kernel : decode zY_97.2.1 30 = .ok (.putfield 21, 3)) rfl zuw_12 zFt_12 zFn_12 (by decide) (zw_T zwd_507) rfl rfl rfl rfl (ty := .array .boolean) (by decide +kernel) (Or.inr ⟨_, rfl⟩)
theorem zf_zm_97_14 (env : List (Nat × Nat)) : zI9 97 zY_97 zm_97 env (33, 0, 0, 0, 0) 34 := zi_aload_n (by decide +kernel : decode zY_97.2.1 33 = .ok (.aload_n 0, 1)) rfl
theorem zf_zm_97_15 (env : List (Nat × Nat)) : zI9 97 zY_97 zm_97 env (34, 2, 2, 0, 0) 35 := zi_iconst (by decide +kernel : decode zY_97.2.1 34 = .ok (.iconst 2, 1)) (by decide +kernel)
theorem zf_zm_97_16 (env : List (Nat × Nat)) : zI9 97 zY_97 zm_97 env (35, 12, 0, 0, 0) 37 := zi_newI (by decide +kernel : decode zY_97.2.1 35 = .ok (.newarray .int, 2)) (zw_T zwd_16) rfl rfl (by decide) rfl
theorem zf_zm_97_17 (env : List (Nat × Nat)) : zI9 97 zY_97 zm_97 env (37, 4, 12, 5, 2) 40 := zi_putfF (i := 25) (N := 21) (C := "TransportPair$Streams") (ref := "TransportPair$Streams") (T := zF_12) (by decide +kernel : decode zY_97.2.1 37 = .ok (.putfield 25, 3)) rfl zuw_12 zFt_12 zFn_12 (by decide) (zw_T zwd_508) rfl rfl rfl rfl (ty := .array .int) (by decide +kernel) (Or.inr ⟨_, rfl⟩)
theorem zf_zm_97_18 (env : List (Nat × Nat)) : zI9 97 zY_97 zm_97 env (40, 0, 0, 0, 0) 41 := zi_aload_n (by decide +kernel : decode zY_97.2.1 40 = .ok (.aload_n 0, 1)) rfl
theorem zf_zm_97_19 (env : List (Nat × Nat)) : zI9 97 zY_97 zm_97 env (41, 2, 2, 0, 0) 42 := zi_iconst (by decide +kernel : decode zY_97.2.1 41 = .ok (.iconst 2, 1)) (by decide +kernel)
theorem zf_zm_97_20 (env : List (Nat × Nat)) : zI9 97 zY_97 zm_97 env (42, 12, 0, 0, 0) 44 := zi_newI (by decide +kernel : decode zY_97.2.1 42 = .ok (.newarray .int, 2)) (zw_T zwd_16) rfl rfl (by decide) rfl
theorem zf_zm_97_21 (env : List (Nat × Nat)) : zI9 97 zY_97 zm_97 env (44, 4, 12, 6, 2) 47 := zi_putfF (i := 29) (N := 21) (C := "TransportPair$Streams") (ref := "TransportPair$Streams") (T := zF_12) (by decide +kernel : decode zY_97.2.1 44 = .ok (.putfield 29, 3)) rfl zuw_12 zFt_12 zFn_12 (by decide) (zw_T zwd_509) rfl rfl rfl rfl (ty := .array .int) (by decide +kernel) (Or.inr ⟨_, rfl⟩)
theorem zf_zm_97_22 (env : List (Nat × Nat)) : zI9 97 zY_97 zm_97 env (47, 0, 0, 0, 0) 48 := zi_aload_n (by decide +kernel : decode zY_97.2.1 47 = .ok (.aload_n 0, 1)) rfl
theorem zf_zm_97_23 (env : List (Nat × Nat)) : zI9 97 zY_97 zm_97 env (48, 2, 10, 0, 0) 50 := zi_bipush (by decide +kernel : decode zY_97.2.1 48 = .ok (.bipush 10, 2)) (by decide +kernel)
theorem zf_zm_97_24 (env : List (Nat × Nat)) : zI9 97 zY_97 zm_97 env (50, 12, 1, 3, 0) 52 := zi_newL (by decide +kernel : decode zY_97.2.1 50 = .ok (.newarray .long, 2)) (zw_T zwd_13) rfl rfl
theorem zf_zm_97_25 (env : List (Nat × Nat)) : zI9 97 zY_97 zm_97 env (52, 4, 12, 7, 2) 55 := zi_putfF (i := 32) (N := 21) (C := "TransportPair$Streams") (ref := "TransportPair$Streams") (T := zF_12) (by decide +kernel : decode zY_97.2.1 52 = .ok (.putfield 32, 3)) rfl zuw_12 zFt_12 zFn_12 (by decide) (zw_T zwd_510) rfl rfl rfl rfl (ty := .array .long) (by decide +kernel) (Or.inr ⟨_, rfl⟩)
theorem zf_zm_97_26 (env : List (Nat × Nat)) : zI9 97 zY_97 zm_97 env (55, 0, 0, 0, 0) 56 := zi_aload_n (by decide +kernel : decode zY_97.2.1 55 = .ok (.aload_n 0, 1)) rfl
theorem zf_zm_97_27 (env : List (Nat × Nat)) : zI9 97 zY_97 zm_97 env (56, 2, 10, 0, 0) 58 := zi_bipush (by decide +kernel : decode zY_97.2.1 56 = .ok (.bipush 10, 2)) (by decide +kernel)
theorem zf_zm_97_28 (env : List (Nat × Nat)) : zI9 97 zY_97 zm_97 env (58, 12, 0, 2, 0) 60 := zi_newI (by decide +kernel : decode zY_97.2.1 58 = .ok (.newarray .boolean, 2)) (zw_T zwd_43) rfl rfl (by decide) rfl
theorem zf_zm_97_29 (env : List (Nat × Nat)) : zI9 97 zY_97 zm_97 env (60, 4, 12, 9, 2) 63 := zi_putfF (i := 36) (N := 21) (C := "TransportPair$Streams") (ref := "TransportPair$Streams") (T := zF_12) (by decide +kernel : decode zY_97.2.1 60 = .ok (.putfield 36, 3)) rfl zuw_12 zFt_12 zFn_12 (by decide) (zw_T zwd_511) rfl rfl rfl rfl (ty := .array .boolean) (by decide +kernel) (Or.inr ⟨_, rfl⟩)
theorem zf_zm_97_30 (env : List (Nat × Nat)) : zI9 97 zY_97 zm_97 env (63, 0, 0, 0, 0) 64 := zi_aload_n (by decide +kernel : decode zY_97.2.1 63 = .ok (.aload_n 0, 1)) rfl
theorem zf_zm_97_31 (env : List (Nat × Nat)) : zI9 97 zY_97 zm_97 env (64, 2, 10, 0, 0) 66 := zi_bipush (by decide +kernel : decode zY_97.2.1 64 = .ok (.bipush 10, 2)) (by decide +kernel)
theorem zf_zm_97_32 (env : List (Nat × Nat)) : zI9 97 zY_97 zm_97 env (66, 12, 1, 3, 0) 68 := zi_newL (by decide +kernel : decode zY_97.2.1 66 = .ok (.newarray .long, 2)) (zw_T zwd_13) rfl rfl
theorem zf_zm_97_33 (env : List (Nat × Nat)) : zI9 97 zY_97 zm_97 env (68, 13, 0, 0, 0) 69 := zi_dup (by decide +kernel : decode zY_97.2.1 68 = .ok (.dup, 1))
theorem zf_zm_97_34 (env : List (Nat × Nat)) : zI9 97 zY_97 zm_97 env (69, 2, 0, 0, 0) 70 := zi_iconst (by decide +kernel : decode zY_97.2.1 69 = .ok (.iconst 0, 1)) (by decide +kernel)
theorem zf_zm_97_35 (env : List (Nat × Nat)) : zI9 97 zY_97 zm_97 env (70, 15, 18446744073709551615, 0, 0) 73 := zi_ldc2 (v := (-1)) (by decide +kernel : decode zY_97.2.1 70 = .ok (.ldc2_w 39, 3)) (by decide +kernel) (zw_T zwd_512)
theorem zf_zm_97_36 (env : List (Nat × Nat)) : zI9 97 zY_97 zm_97 env (73, 18, 0, 0, 0) 74 := zi_last (by decide +kernel : decode zY_97.2.1 73 = .ok (.lastore, 1))
theorem zf_zm_97_37 (env : List (Nat × Nat)) : zI9 97 zY_97 zm_97 env (74, 13, 0, 0, 0) 75 := zi_dup (by decide +kernel : decode zY_97.2.1 74 = .ok (.dup, 1))
theorem zf_zm_97_38 (env : List (Nat × Nat)) : zI9 97 zY_97 zm_97 env (75, 2, 1, 0, 0) 76 := zi_iconst (by decide +kernel : decode zY_97.2.1 75 = .ok (.iconst 1, 1)) (by decide +kernel)
theorem zf_zm_97_39 (env : List (Nat × Nat)) : zI9 97 zY_97 zm_97 env (76, 15, 18446744073709551615, 0, 0) 79 := zi_ldc2 (v := (-1)) (by decide +kernel : decode zY_97.2.1 76 = .ok (.ldc2_w 39, 3)) (by decide +kernel) (zw_T zwd_512)
theorem zf_zm_97_40 (env : List (Nat × Nat)) : zI9 97 zY_97 zm_97 env (79, 18, 0, 0, 0) 80 := zi_last (by decide +kernel : decode zY_97.2.1 79 = .ok (.lastore, 1))
theorem zf_zm_97_41 (env : List (Nat × Nat)) : zI9 97 zY_97 zm_97 env (80, 13, 0, 0, 0) 81 := zi_dup (by decide +kernel : decode zY_97.2.1 80 = .ok (.dup, 1))
theorem zf_zm_97_42 (env : List (Nat × Nat)) : zI9 97 zY_97 zm_97 env (81, 2, 2, 0, 0) 82 := zi_iconst (by decide +kernel : decode zY_97.2.1 81 = .ok (.iconst 2, 1)) (by decide +kernel)
theorem zf_zm_97_43 (env : List (Nat × Nat)) : zI9 97 zY_97 zm_97 env (82, 15, 18446744073709551615, 0, 0) 85 := zi_ldc2 (v := (-1)) (by decide +kernel : decode zY_97.2.1 82 = .ok (.ldc2_w 39, 3)) (by decide +kernel) (zw_T zwd_512)
theorem zf_zm_97_44 (env : List (Nat × Nat)) : zI9 97 zY_97 zm_97 env (85, 18, 0, 0, 0) 86 := zi_last (by decide +kernel : decode zY_97.2.1 85 = .ok (.lastore, 1))
theorem zf_zm_97_45 (env : List (Nat × Nat)) : zI9 97 zY_97 zm_97 env (86, 13, 0, 0, 0) 87 := zi_dup (by decide +kernel : decode zY_97.2.1 86 = .ok (.dup, 1))
theorem zf_zm_97_46 (env : List (Nat × Nat)) : zI9 97 zY_97 zm_97 env (87, 2, 3, 0, 0) 88 := zi_iconst (by decide +kernel : decode zY_97.2.1 87 = .ok (.iconst 3, 1)) (by decide +kernel)
theorem zf_zm_97_47 (env : List (Nat × Nat)) : zI9 97 zY_97 zm_97 env (88, 15, 18446744073709551615, 0, 0) 91 := zi_ldc2 (v := (-1)) (by decide +kernel : decode zY_97.2.1 88 = .ok (.ldc2_w 39, 3)) (by decide +kernel) (zw_T zwd_512)
theorem zf_zm_97_48 (env : List (Nat × Nat)) : zI9 97 zY_97 zm_97 env (91, 18, 0, 0, 0) 92 := zi_last (by decide +kernel : decode zY_97.2.1 91 = .ok (.lastore, 1))
theorem zf_zm_97_49 (env : List (Nat × Nat)) : zI9 97 zY_97 zm_97 env (92, 13, 0, 0, 0) 93 := zi_dup (by decide +kernel : decode zY_97.2.1 92 = .ok (.dup, 1))
theorem zf_zm_97_50 (env : List (Nat × Nat)) : zI9 97 zY_97 zm_97 env (93, 2, 4, 0, 0) 94 := zi_iconst (by decide +kernel : decode zY_97.2.1 93 = .ok (.iconst 4, 1)) (by decide +kernel)
theorem zf_zm_97_51 (env : List (Nat × Nat)) : zI9 97 zY_97 zm_97 env (94, 15, 18446744073709551615, 0, 0) 97 := zi_ldc2 (v := (-1)) (by decide +kernel : decode zY_97.2.1 94 = .ok (.ldc2_w 39, 3)) (by decide +kernel) (zw_T zwd_512)
theorem zf_zm_97_52 (env : List (Nat × Nat)) : zI9 97 zY_97 zm_97 env (97, 18, 0, 0, 0) 98 := zi_last (by decide +kernel : decode zY_97.2.1 97 = .ok (.lastore, 1))
theorem zf_zm_97_53 (env : List (Nat × Nat)) : zI9 97 zY_97 zm_97 env (98, 13, 0, 0, 0) 99 := zi_dup (by decide +kernel : decode zY_97.2.1 98 = .ok (.dup, 1))
theorem zf_zm_97_54 (env : List (Nat × Nat)) : zI9 97 zY_97 zm_97 env (99, 2, 5, 0, 0) 100 := zi_iconst (by decide +kernel : decode zY_97.2.1 99 = .ok (.iconst 5, 1)) (by decide +kernel)
theorem zf_zm_97_55 (env : List (Nat × Nat)) : zI9 97 zY_97 zm_97 env (100, 15, 18446744073709551615, 0, 0) 103 := zi_ldc2 (v := (-1)) (by decide +kernel : decode zY_97.2.1 100 = .ok (.ldc2_w 39, 3)) (by decide +kernel) (zw_T zwd_512)
theorem zf_zm_97_56 (env : List (Nat × Nat)) : zI9 97 zY_97 zm_97 env (103, 18, 0, 0, 0) 104 := zi_last (by decide +kernel : decode zY_97.2.1 103 = .ok (.lastore, 1))
theorem zf_zm_97_57 (env : List (Nat × Nat)) : zI9 97 zY_97 zm_97 env (104, 13, 0, 0, 0) 105 := zi_dup (by decide +kernel : decode zY_97.2.1 104 = .ok (.dup, 1))
theorem zf_zm_97_58 (env : List (Nat × Nat)) : zI9 97 zY_97 zm_97 env (105, 2, 6, 0, 0) 107 := zi_bipush (by decide +kernel : decode zY_97.2.1 105 = .ok (.bipush 6, 2)) (by decide +kernel)
theorem zf_zm_97_59 (env : List (Nat × Nat)) : zI9 97 zY_97 zm_97 env (107, 15, 18446744073709551615, 0, 0) 110 := zi_ldc2 (v := (-1)) (by decide +kernel : decode zY_97.2.1 107 = .ok (.ldc2_w 39, 3)) (by decide +kernel) (zw_T zwd_512)
theorem zf_zm_97_60 (env : List (Nat × Nat)) : zI9 97 zY_97 zm_97 env (110, 18, 0, 0, 0) 111 := zi_last (by decide +kernel : decode zY_97.2.1 110 = .ok (.lastore, 1))
theorem zf_zm_97_61 (env : List (Nat × Nat)) : zI9 97 zY_97 zm_97 env (111, 13, 0, 0, 0) 112 := zi_dup (by decide +kernel : decode zY_97.2.1 111 = .ok (.dup, 1))
theorem zf_zm_97_62 (env : List (Nat × Nat)) : zI9 97 zY_97 zm_97 env (112, 2, 7, 0, 0) 114 := zi_bipush (by decide +kernel : decode zY_97.2.1 112 = .ok (.bipush 7, 2)) (by decide +kernel)
theorem zf_zm_97_63 (env : List (Nat × Nat)) : zI9 97 zY_97 zm_97 env (114, 15, 18446744073709551615, 0, 0) 117 := zi_ldc2 (v := (-1)) (by decide +kernel : decode zY_97.2.1 114 = .ok (.ldc2_w 39, 3)) (by decide +kernel) (zw_T zwd_512)
theorem zf_zm_97_64 (env : List (Nat × Nat)) : zI9 97 zY_97 zm_97 env (117, 18, 0, 0, 0) 118 := zi_last (by decide +kernel : decode zY_97.2.1 117 = .ok (.lastore, 1))
theorem zf_zm_97_65 (env : List (Nat × Nat)) : zI9 97 zY_97 zm_97 env (118, 13, 0, 0, 0) 119 := zi_dup (by decide +kernel : decode zY_97.2.1 118 = .ok (.dup, 1))
theorem zf_zm_97_66 (env : List (Nat × Nat)) : zI9 97 zY_97 zm_97 env (119, 2, 8, 0, 0) 121 := zi_bipush (by decide +kernel : decode zY_97.2.1 119 = .ok (.bipush 8, 2)) (by decide +kernel)
theorem zf_zm_97_67 (env : List (Nat × Nat)) : zI9 97 zY_97 zm_97 env (121, 15, 18446744073709551615, 0, 0) 124 := zi_ldc2 (v := (-1)) (by decide +kernel : decode zY_97.2.1 121 = .ok (.ldc2_w 39, 3)) (by decide +kernel) (zw_T zwd_512)
theorem zf_zm_97_68 (env : List (Nat × Nat)) : zI9 97 zY_97 zm_97 env (124, 18, 0, 0, 0) 125 := zi_last (by decide +kernel : decode zY_97.2.1 124 = .ok (.lastore, 1))
theorem zf_zm_97_69 (env : List (Nat × Nat)) : zI9 97 zY_97 zm_97 env (125, 13, 0, 0, 0) 126 := zi_dup (by decide +kernel : decode zY_97.2.1 125 = .ok (.dup, 1))
theorem zf_zm_97_70 (env : List (Nat × Nat)) : zI9 97 zY_97 zm_97 env (126, 2, 9, 0, 0) 128 := zi_bipush (by decide +kernel : decode zY_97.2.1 126 = .ok (.bipush 9, 2)) (by decide +kernel)
theorem zf_zm_97_71 (env : List (Nat × Nat)) : zI9 97 zY_97 zm_97 env (128, 15, 18446744073709551615, 0, 0) 131 := zi_ldc2 (v := (-1)) (by decide +kernel : decode zY_97.2.1 128 = .ok (.ldc2_w 39, 3)) (by decide +kernel) (zw_T zwd_512)
theorem zf_zm_97_72 (env : List (Nat × Nat)) : zI9 97 zY_97 zm_97 env (131, 18, 0, 0, 0) 132 := zi_last (by decide +kernel : decode zY_97.2.1 131 = .ok (.lastore, 1))
theorem zf_zm_97_73 (env : List (Nat × Nat)) : zI9 97 zY_97 zm_97 env (132, 4, 12, 10, 2) 135 := zi_putfF (i := 41) (N := 21) (C := "TransportPair$Streams") (ref := "TransportPair$Streams") (T := zF_12) (by decide +kernel : decode zY_97.2.1 132 = .ok (.putfield 41, 3)) rfl zuw_12 zFt_12 zFn_12 (by decide) (zw_T zwd_513) rfl rfl rfl rfl (ty := .array .long) (by decide +kernel) (Or.inr ⟨_, rfl⟩)
theorem zf_zm_97_74 (env : List (Nat × Nat)) : zI9 97 zY_97 zm_97 env (135, 0, 0, 0, 0) 136 := zi_aload_n (by decide +kernel : decode zY_97.2.1 135 = .ok (.aload_n 0, 1)) rfl
theorem zf_zm_97_75 (env : List (Nat × Nat)) : zI9 97 zY_97 zm_97 env (136, 2, 10, 0, 0) 138 := zi_bipush (by decide +kernel : decode zY_97.2.1 136 = .ok (.bipush 10, 2)) (by decide +kernel)
theorem zf_zm_97_76 (env : List (Nat × Nat)) : zI9 97 zY_97 zm_97 env (138, 12, 1, 3, 0) 140 := zi_newL (by decide +kernel : decode zY_97.2.1 138 = .ok (.newarray .long, 2)) (zw_T zwd_13) rfl rfl
theorem zf_zm_97_77 (env : List (Nat × Nat)) : zI9 97 zY_97 zm_97 env (140, 13, 0, 0, 0) 141 := zi_dup (by decide +kernel : decode zY_97.2.1 140 = .ok (.dup, 1))
theorem zf_zm_97_78 (env : List (Nat × Nat)) : zI9 97 zY_97 zm_97 env (141, 2, 0, 0, 0) 142 := zi_iconst (by decide +kernel : decode zY_97.2.1 141 = .ok (.iconst 0, 1)) (by decide +kernel)
theorem zf_zm_97_79 (env : List (Nat × Nat)) : zI9 97 zY_97 zm_97 env (142, 15, 18446744073709551615, 0, 0) 145 := zi_ldc2 (v := (-1)) (by decide +kernel : decode zY_97.2.1 142 = .ok (.ldc2_w 39, 3)) (by decide +kernel) (zw_T zwd_512)
theorem zf_zm_97_80 (env : List (Nat × Nat)) : zI9 97 zY_97 zm_97 env (145, 18, 0, 0, 0) 146 := zi_last (by decide +kernel : decode zY_97.2.1 145 = .ok (.lastore, 1))
theorem zf_zm_97_81 (env : List (Nat × Nat)) : zI9 97 zY_97 zm_97 env (146, 13, 0, 0, 0) 147 := zi_dup (by decide +kernel : decode zY_97.2.1 146 = .ok (.dup, 1))
theorem zf_zm_97_82 (env : List (Nat × Nat)) : zI9 97 zY_97 zm_97 env (147, 2, 1, 0, 0) 148 := zi_iconst (by decide +kernel : decode zY_97.2.1 147 = .ok (.iconst 1, 1)) (by decide +kernel)
theorem zf_zm_97_83 (env : List (Nat × Nat)) : zI9 97 zY_97 zm_97 env (148, 15, 18446744073709551615, 0, 0) 151 := zi_ldc2 (v := (-1)) (by decide +kernel : decode zY_97.2.1 148 = .ok (.ldc2_w 39, 3)) (by decide +kernel) (zw_T zwd_512)
theorem zf_zm_97_84 (env : List (Nat × Nat)) : zI9 97 zY_97 zm_97 env (151, 18, 0, 0, 0) 152 := zi_last (by decide +kernel : decode zY_97.2.1 151 = .ok (.lastore, 1))
theorem zf_zm_97_85 (env : List (Nat × Nat)) : zI9 97 zY_97 zm_97 env (152, 13, 0, 0, 0) 153 := zi_dup (by decide +kernel : decode zY_97.2.1 152 = .ok (.dup, 1))
theorem zf_zm_97_86 (env : List (Nat × Nat)) : zI9 97 zY_97 zm_97 env (153, 2, 2, 0, 0) 154 := zi_iconst (by decide +kernel : decode zY_97.2.1 153 = .ok (.iconst 2, 1)) (by decide +kernel)
theorem zf_zm_97_87 (env : List (Nat × Nat)) : zI9 97 zY_97 zm_97 env (154, 15, 18446744073709551615, 0, 0) 157 := zi_ldc2 (v := (-1)) (by decide +kernel : decode zY_97.2.1 154 = .ok (.ldc2_w 39, 3)) (by decide +kernel) (zw_T zwd_512)
theorem zf_zm_97_88 (env : List (Nat × Nat)) : zI9 97 zY_97 zm_97 env (157, 18, 0, 0, 0) 158 := zi_last (by decide +kernel : decode zY_97.2.1 157 = .ok (.lastore, 1))
theorem zf_zm_97_89 (env : List (Nat × Nat)) : zI9 97 zY_97 zm_97 env (158, 13, 0, 0, 0) 159 := zi_dup (by decide +kernel : decode zY_97.2.1 158 = .ok (.dup, 1))
theorem zf_zm_97_90 (env : List (Nat × Nat)) : zI9 97 zY_97 zm_97 env (159, 2, 3, 0, 0) 160 := zi_iconst (by decide +kernel : decode zY_97.2.1 159 = .ok (.iconst 3, 1)) (by decide +kernel)
theorem zf_zm_97_91 (env : List (Nat × Nat)) : zI9 97 zY_97 zm_97 env (160, 15, 18446744073709551615, 0, 0) 163 := zi_ldc2 (v := (-1)) (by decide +kernel : decode zY_97.2.1 160 = .ok (.ldc2_w 39, 3)) (by decide +kernel) (zw_T zwd_512)
theorem zf_zm_97_92 (env : List (Nat × Nat)) : zI9 97 zY_97 zm_97 env (163, 18, 0, 0, 0) 164 := zi_last (by decide +kernel : decode zY_97.2.1 163 = .ok (.lastore, 1))
theorem zf_zm_97_93 (env : List (Nat × Nat)) : zI9 97 zY_97 zm_97 env (164, 13, 0, 0, 0) 165 := zi_dup (by decide +kernel : decode zY_97.2.1 164 = .ok (.dup, 1))
theorem zf_zm_97_94 (env : List (Nat × Nat)) : zI9 97 zY_97 zm_97 env (165, 2, 4, 0, 0) 166 := zi_iconst (by decide +kernel : decode zY_97.2.1 165 = .ok (.iconst 4, 1)) (by decide +kernel)
theorem zf_zm_97_95 (env : List (Nat × Nat)) : zI9 97 zY_97 zm_97 env (166, 15, 18446744073709551615, 0, 0) 169 := zi_ldc2 (v := (-1)) (by decide +kernel : decode zY_97.2.1 166 = .ok (.ldc2_w 39, 3)) (by decide +kernel) (zw_T zwd_512)
theorem zf_zm_97_96 (env : List (Nat × Nat)) : zI9 97 zY_97 zm_97 env (169, 18, 0, 0, 0) 170 := zi_last (by decide +kernel : decode zY_97.2.1 169 = .ok (.lastore, 1))
theorem zf_zm_97_97 (env : List (Nat × Nat)) : zI9 97 zY_97 zm_97 env (170, 13, 0, 0, 0) 171 := zi_dup (by decide +kernel : decode zY_97.2.1 170 = .ok (.dup, 1))
theorem zf_zm_97_98 (env : List (Nat × Nat)) : zI9 97 zY_97 zm_97 env (171, 2, 5, 0, 0) 172 := zi_iconst (by decide +kernel : decode zY_97.2.1 171 = .ok (.iconst 5, 1)) (by decide +kernel)
theorem zf_zm_97_99 (env : List (Nat × Nat)) : zI9 97 zY_97 zm_97 env (172, 15, 18446744073709551615, 0, 0) 175 := zi_ldc2 (v := (-1)) (by decide +kernel : decode zY_97.2.1 172 = .ok (.ldc2_w 39, 3)) (by decide +kernel) (zw_T zwd_512)
theorem zf_zm_97_100 (env : List (Nat × Nat)) : zI9 97 zY_97 zm_97 env (175, 18, 0, 0, 0) 176 := zi_last (by decide +kernel : decode zY_97.2.1 175 = .ok (.lastore, 1))
theorem zf_zm_97_101 (env : List (Nat × Nat)) : zI9 97 zY_97 zm_97 env (176, 13, 0, 0, 0) 177 := zi_dup (by decide +kernel : decode zY_97.2.1 176 = .ok (.dup, 1))
theorem zf_zm_97_102 (env : List (Nat × Nat)) : zI9 97 zY_97 zm_97 env (177, 2, 6, 0, 0) 179 := zi_bipush (by decide +kernel : decode zY_97.2.1 177 = .ok (.bipush 6, 2)) (by decide +kernel)
theorem zf_zm_97_103 (env : List (Nat × Nat)) : zI9 97 zY_97 zm_97 env (179, 15, 18446744073709551615, 0, 0) 182 := zi_ldc2 (v := (-1)) (by decide +kernel : decode zY_97.2.1 179 = .ok (.ldc2_w 39, 3)) (by decide +kernel) (zw_T zwd_512)
theorem zf_zm_97_104 (env : List (Nat × Nat)) : zI9 97 zY_97 zm_97 env (182, 18, 0, 0, 0) 183 := zi_last (by decide +kernel : decode zY_97.2.1 182 = .ok (.lastore, 1))
theorem zf_zm_97_105 (env : List (Nat × Nat)) : zI9 97 zY_97 zm_97 env (183, 13, 0, 0, 0) 184 := zi_dup (by decide +kernel : decode zY_97.2.1 183 = .ok (.dup, 1))
theorem zf_zm_97_106 (env : List (Nat × Nat)) : zI9 97 zY_97 zm_97 env (184, 2, 7, 0, 0) 186 := zi_bipush (by decide +kernel : decode zY_97.2.1 184 = .ok (.bipush 7, 2)) (by decide +kernel)
theorem zf_zm_97_107 (env : List (Nat × Nat)) : zI9 97 zY_97 zm_97 env (186, 15, 18446744073709551615, 0, 0) 189 := zi_ldc2 (v := (-1)) (by decide +kernel : decode zY_97.2.1 186 = .ok (.ldc2_w 39, 3)) (by decide +kernel) (zw_T zwd_512)
theorem zf_zm_97_108 (env : List (Nat × Nat)) : zI9 97 zY_97 zm_97 env (189, 18, 0, 0, 0) 190 := zi_last (by decide +kernel : decode zY_97.2.1 189 = .ok (.lastore, 1))
theorem zf_zm_97_109 (env : List (Nat × Nat)) : zI9 97 zY_97 zm_97 env (190, 13, 0, 0, 0) 191 := zi_dup (by decide +kernel : decode zY_97.2.1 190 = .ok (.dup, 1))
theorem zf_zm_97_110 (env : List (Nat × Nat)) : zI9 97 zY_97 zm_97 env (191, 2, 8, 0, 0) 193 := zi_bipush (by decide +kernel : decode zY_97.2.1 191 = .ok (.bipush 8, 2)) (by decide +kernel)
theorem zf_zm_97_111 (env : List (Nat × Nat)) : zI9 97 zY_97 zm_97 env (193, 15, 18446744073709551615, 0, 0) 196 := zi_ldc2 (v := (-1)) (by decide +kernel : decode zY_97.2.1 193 = .ok (.ldc2_w 39, 3)) (by decide +kernel) (zw_T zwd_512)
theorem zf_zm_97_112 (env : List (Nat × Nat)) : zI9 97 zY_97 zm_97 env (196, 18, 0, 0, 0) 197 := zi_last (by decide +kernel : decode zY_97.2.1 196 = .ok (.lastore, 1))
theorem zf_zm_97_113 (env : List (Nat × Nat)) : zI9 97 zY_97 zm_97 env (197, 13, 0, 0, 0) 198 := zi_dup (by decide +kernel : decode zY_97.2.1 197 = .ok (.dup, 1))
theorem zf_zm_97_114 (env : List (Nat × Nat)) : zI9 97 zY_97 zm_97 env (198, 2, 9, 0, 0) 200 := zi_bipush (by decide +kernel : decode zY_97.2.1 198 = .ok (.bipush 9, 2)) (by decide +kernel)
theorem zf_zm_97_115 (env : List (Nat × Nat)) : zI9 97 zY_97 zm_97 env (200, 15, 18446744073709551615, 0, 0) 203 := zi_ldc2 (v := (-1)) (by decide +kernel : decode zY_97.2.1 200 = .ok (.ldc2_w 39, 3)) (by decide +kernel) (zw_T zwd_512)
theorem zf_zm_97_116 (env : List (Nat × Nat)) : zI9 97 zY_97 zm_97 env (203, 18, 0, 0, 0) 204 := zi_last (by decide +kernel : decode zY_97.2.1 203 = .ok (.lastore, 1))
theorem zf_zm_97_117 (env : List (Nat × Nat)) : zI9 97 zY_97 zm_97 env (204, 4, 12, 11, 2) 207 := zi_putfF (i := 44) (N := 21) (C := "TransportPair$Streams") (ref := "TransportPair$Streams") (T := zF_12) (by decide +kernel : decode zY_97.2.1 204 = .ok (.putfield 44, 3)) rfl zuw_12 zFt_12 zFn_12 (by decide) (zw_T zwd_514) rfl rfl rfl rfl (ty := .array .long) (by decide +kernel) (Or.inr ⟨_, rfl⟩)
theorem zf_zm_97_118 (env : List (Nat × Nat)) : zI9 97 zY_97 zm_97 env (207, 0, 0, 0, 0) 208 := zi_aload_n (by decide +kernel : decode zY_97.2.1 207 = .ok (.aload_n 0, 1)) rfl
theorem zf_zm_97_119 (env : List (Nat × Nat)) : zI9 97 zY_97 zm_97 env (208, 2, 255, 0, 0) 211 := zi_sipush (by decide +kernel : decode zY_97.2.1 208 = .ok (.sipush 255, 3)) (by decide +kernel)
theorem zf_zm_97_120 (env : List (Nat × Nat)) : zI9 97 zY_97 zm_97 env (211, 4, 12, 17, 0) 214 := zi_putf (i := 47) (N := 21) (C := "TransportPair$Streams") (ref := "TransportPair$Streams") (T := zF_12) (by decide +kernel : decode zY_97.2.1 211 = .ok (.putfield 47, 3)) rfl zuw_12 zFt_12 zFn_12 (by decide) (zw_T zwd_515) rfl rfl (ty := .int) (by decide +kernel) (rfl)
theorem zf_zm_97_121 (env : List (Nat × Nat)) : zI9 97 zY_97 zm_97 env (214, 0, 0, 0, 0) 215 := zi_aload_n (by decide +kernel : decode zY_97.2.1 214 = .ok (.aload_n 0, 1)) rfl
theorem zf_zm_97_122 (env : List (Nat × Nat)) : zI9 97 zY_97 zm_97 env (215, 2, 3, 0, 0) 216 := zi_iconst (by decide +kernel : decode zY_97.2.1 215 = .ok (.iconst 3, 1)) (by decide +kernel)
theorem zf_zm_97_123 (env : List (Nat × Nat)) : zI9 97 zY_97 zm_97 env (216, 12, 1, 3, 0) 218 := zi_newL (by decide +kernel : decode zY_97.2.1 216 = .ok (.newarray .long, 2)) (zw_T zwd_13) rfl rfl
theorem zf_zm_97_124 (env : List (Nat × Nat)) : zI9 97 zY_97 zm_97 env (218, 4, 12, 19, 2) 221 := zi_putfF (i := 51) (N := 21) (C := "TransportPair$Streams") (ref := "TransportPair$Streams") (T := zF_12) (by decide +kernel : decode zY_97.2.1 218 = .ok (.putfield 51, 3)) rfl zuw_12 zFt_12 zFn_12 (by decide) (zw_T zwd_516) rfl rfl rfl rfl (ty := .array .long) (by decide +kernel) (Or.inr ⟨_, rfl⟩)
theorem zf_zm_97_125 (env : List (Nat × Nat)) : zI9 97 zY_97 zm_97 env (221, 0, 0, 0, 0) 222 := zi_aload_n (by decide +kernel : decode zY_97.2.1 221 = .ok (.aload_n 0, 1)) rfl
theorem zf_zm_97_126 (env : List (Nat × Nat)) : zI9 97 zY_97 zm_97 env (222, 2, 5, 0, 0) 223 := zi_iconst (by decide +kernel : decode zY_97.2.1 222 = .ok (.iconst 5, 1)) (by decide +kernel)
theorem zf_zm_97_127 (env : List (Nat × Nat)) : zI9 97 zY_97 zm_97 env (223, 12, 0, 0, 0) 225 := zi_newI (by decide +kernel : decode zY_97.2.1 223 = .ok (.newarray .int, 2)) (zw_T zwd_16) rfl rfl (by decide) rfl
theorem zf_zm_97_128 (env : List (Nat × Nat)) : zI9 97 zY_97 zm_97 env (225, 4, 12, 20, 2) 228 := zi_putfF (i := 54) (N := 21) (C := "TransportPair$Streams") (ref := "TransportPair$Streams") (T := zF_12) (by decide +kernel : decode zY_97.2.1 225 = .ok (.putfield 54, 3)) rfl zuw_12 zFt_12 zFn_12 (by decide) (zw_T zwd_517) rfl rfl rfl rfl (ty := .array .int) (by decide +kernel) (Or.inr ⟨_, rfl⟩)
theorem zf_zm_97_129 (env : List (Nat × Nat)) : zI9 97 zY_97 zm_97 env (228, 0, 0, 0, 0) 229 := zi_aload_n (by decide +kernel : decode zY_97.2.1 228 = .ok (.aload_n 0, 1)) rfl
theorem zf_zm_97_130 (env : List (Nat × Nat)) : zI9 97 zY_97 zm_97 env (229, 63, 1, 0, 0) 230 := zi_iload_n (by decide +kernel : decode zY_97.2.1 229 = .ok (.iload_n 1, 1)) rfl
theorem zf_zm_97_131 (env : List (Nat × Nat)) : zI9 97 zY_97 zm_97 env (230, 4, 12, 0, 0) 233 := zi_putfF (i := 57) (N := 21) (C := "TransportPair$Streams") (ref := "TransportPair$Streams") (T := zF_12) (by decide +kernel : decode zY_97.2.1 230 = .ok (.putfield 57, 3)) rfl zuw_12 zFt_12 zFn_12 (by decide) (zw_T zwd_518) rfl rfl rfl rfl (ty := .int) (by decide +kernel) (rfl)
theorem zf_zm_97_132 (env : List (Nat × Nat)) : zI9 97 zY_97 zm_97 env (233, 0, 0, 0, 0) 234 := zi_aload_n (by decide +kernel : decode zY_97.2.1 233 = .ok (.aload_n 0, 1)) rfl
theorem zf_zm_97_133 (env : List (Nat × Nat)) : zI9 97 zY_97 zm_97 env (234, 0, 2, 0, 0) 235 := zi_aload_n (by decide +kernel : decode zY_97.2.1 234 = .ok (.aload_n 2, 1)) rfl
theorem zf_zm_97_134 (env : List (Nat × Nat)) : zI9 97 zY_97 zm_97 env (235, 4, 12, 1, 2) 238 := zi_putfF (i := 60) (N := 21) (C := "TransportPair$Streams") (ref := "TransportPair$Streams") (T := zF_12) (by decide +kernel : decode zY_97.2.1 235 = .ok (.putfield 60, 3)) rfl zuw_12 zFt_12 zFn_12 (by decide) (zw_T zwd_519) rfl rfl rfl rfl (ty := .array .int) (by decide +kernel) (Or.inr ⟨_, rfl⟩)
theorem zf_zm_97_135 (env : List (Nat × Nat)) : zI9 97 zY_97 zm_97 env (238, 0, 0, 0, 0) 239 := zi_aload_n (by decide +kernel : decode zY_97.2.1 238 = .ok (.aload_n 0, 1)) rfl
theorem zf_zm_97_136 (env : List (Nat × Nat)) : zI9 97 zY_97 zm_97 env (239, 0, 2, 0, 0) 240 := zi_aload_n (by decide +kernel : decode zY_97.2.1 239 = .ok (.aload_n 2, 1)) rfl
theorem zf_zm_97_137 (env : List (Nat × Nat)) : zI9 97 zY_97 zm_97 env (240, 59, 0, 0, 0) 243 := zi_clone (i := 63) (by decide +kernel : decode zY_97.2.1 240 = .ok (.invokevirtual 63, 3)) (zw_T zwd_520) (zw_T zwd_521) (zw_T zwd_522) (zw_T zwd_523) (zw_T zwd_524) (zw_N zwd_525)
theorem zf_zm_97_138 (env : List (Nat × Nat)) : zI9 97 zY_97 zm_97 env (243, 67, 0, 0, 0) 246 := zi_cast (i := 64) (by decide +kernel : decode zY_97.2.1 243 = .ok (.checkcast 64, 3)) (zw_T zwd_526)
theorem zf_zm_97_139 (env : List (Nat × Nat)) : zI9 97 zY_97 zm_97 env (246, 4, 12, 8, 2) 249 := zi_putfF (i := 68) (N := 21) (C := "TransportPair$Streams") (ref := "TransportPair$Streams") (T := zF_12) (by decide +kernel : decode zY_97.2.1 246 = .ok (.putfield 68, 3)) rfl zuw_12 zFt_12 zFn_12 (by decide) (zw_T zwd_527) rfl rfl rfl rfl (ty := .array .int) (by decide +kernel) (Or.inr ⟨_, rfl⟩)
theorem zf_zm_97_140 (env : List (Nat × Nat)) : zR9 97 env (249, 21, 0, 0, 0) := zi_vret (by decide +kernel : decode (zYf 97).2.1 249 = .ok (.return_, 1)) rfl
set_option maxRecDepth 100000 in
theorem zc_zm_97 (env : List (Nat × Nat)) : zcode zX (z_QF zEX zcl zft) (z_zm zEX zX zWL zcl zft zYf) zYf zW zET zcl zft (zGv env) 97 zm_97 zm_97.1 := ⟨Or.inl ⟨1, zf_zm_97_0 env, zpc_c⟩,
  Or.inl ⟨4, zf_zm_97_1 env, zpc_c⟩,
  Or.inl ⟨5, zf_zm_97_2 env, zpc_c⟩,
  Or.inl ⟨8, zf_zm_97_3 env, zpc_c⟩,
  Or.inl ⟨11, zf_zm_97_4 env, zpc_c⟩,
  Or.inl ⟨14, zf_zm_97_5 env, zpc_c⟩,
  Or.inl ⟨15, zf_zm_97_6 env, zpc_c⟩,
  Or.inl ⟨18, zf_zm_97_7 env, zpc_c⟩,
  Or.inl ⟨21, zf_zm_97_8 env, zpc_c⟩,
  Or.inl ⟨24, zf_zm_97_9 env, zpc_c⟩,
  Or.inl ⟨25, zf_zm_97_10 env, zpc_c⟩,
  Or.inl ⟨28, zf_zm_97_11 env, zpc_c⟩,
  Or.inl ⟨30, zf_zm_97_12 env, zpc_c⟩,
  Or.inl ⟨33, zf_zm_97_13 env, zpc_c⟩,
  Or.inl ⟨34, zf_zm_97_14 env, zpc_c⟩,
  Or.inl ⟨35, zf_zm_97_15 env, zpc_c⟩,
  Or.inl ⟨37, zf_zm_97_16 env, zpc_c⟩,
  Or.inl ⟨40, zf_zm_97_17 env, zpc_c⟩,
  Or.inl ⟨41, zf_zm_97_18 env, zpc_c⟩,
  Or.inl ⟨42, zf_zm_97_19 env, zpc_c⟩,
  Or.inl ⟨44, zf_zm_97_20 env, zpc_c⟩,
  Or.inl ⟨47, zf_zm_97_21 env, zpc_c⟩,
  Or.inl ⟨48, zf_zm_97_22 env, zpc_c⟩,
  Or.inl ⟨50, zf_zm_97_23 env, zpc_c⟩,
  Or.inl ⟨52, zf_zm_97_24 env, zpc_c⟩,
  Or.inl ⟨55, zf_zm_97_25 env, zpc_c⟩,
  Or.inl ⟨56, zf_zm_97_26 env, zpc_c⟩,
  Or.inl ⟨58, zf_zm_97_27 env, zpc_c⟩,
  Or.inl ⟨60, zf_zm_97_28 env, zpc_c⟩,
  Or.inl ⟨63, zf_zm_97_29 env, zpc_c⟩,
  Or.inl ⟨64, zf_zm_97_30 env, zpc_c⟩,
  Or.inl ⟨66, zf_zm_97_31 env, zpc_c⟩,
  Or.inl ⟨68, zf_zm_97_32 env, zpc_c⟩,
  Or.inl ⟨69, zf_zm_97_33 env, zpc_c⟩,
  Or.inl ⟨70, zf_zm_97_34 env, zpc_c⟩,
  Or.inl ⟨73, zf_zm_97_35 env, zpc_c⟩,
  Or.inl ⟨74, zf_zm_97_36 env, zpc_c⟩,
  Or.inl ⟨75, zf_zm_97_37 env, zpc_c⟩,
  Or.inl ⟨76, zf_zm_97_38 env, zpc_c⟩,
  Or.inl ⟨79, zf_zm_97_39 env, zpc_c⟩,
  Or.inl ⟨80, zf_zm_97_40 env, zpc_c⟩,
  Or.inl ⟨81, zf_zm_97_41 env, zpc_c⟩,
  Or.inl ⟨82, zf_zm_97_42 env, zpc_c⟩,
  Or.inl ⟨85, zf_zm_97_43 env, zpc_c⟩,
  Or.inl ⟨86, zf_zm_97_44 env, zpc_c⟩,
  Or.inl ⟨87, zf_zm_97_45 env, zpc_c⟩,
  Or.inl ⟨88, zf_zm_97_46 env, zpc_c⟩,
  Or.inl ⟨91, zf_zm_97_47 env, zpc_c⟩,
  Or.inl ⟨92, zf_zm_97_48 env, zpc_c⟩,
  Or.inl ⟨93, zf_zm_97_49 env, zpc_c⟩,
  Or.inl ⟨94, zf_zm_97_50 env, zpc_c⟩,
  Or.inl ⟨97, zf_zm_97_51 env, zpc_c⟩,
  Or.inl ⟨98, zf_zm_97_52 env, zpc_c⟩,
  Or.inl ⟨99, zf_zm_97_53 env, zpc_c⟩,
  Or.inl ⟨100, zf_zm_97_54 env, zpc_c⟩,
  Or.inl ⟨103, zf_zm_97_55 env, zpc_c⟩,
  Or.inl ⟨104, zf_zm_97_56 env, zpc_c⟩,
  Or.inl ⟨105, zf_zm_97_57 env, zpc_c⟩,
  Or.inl ⟨107, zf_zm_97_58 env, zpc_c⟩,
  Or.inl ⟨110, zf_zm_97_59 env, zpc_c⟩,
  Or.inl ⟨111, zf_zm_97_60 env, zpc_c⟩,
  Or.inl ⟨112, zf_zm_97_61 env, zpc_c⟩,
  Or.inl ⟨114, zf_zm_97_62 env, zpc_c⟩,
  Or.inl ⟨117, zf_zm_97_63 env, zpc_c⟩,
  Or.inl ⟨118, zf_zm_97_64 env, zpc_c⟩,
  Or.inl ⟨119, zf_zm_97_65 env, zpc_c⟩,
  Or.inl ⟨121, zf_zm_97_66 env, zpc_c⟩,
  Or.inl ⟨124, zf_zm_97_67 env, zpc_c⟩,
  Or.inl ⟨125, zf_zm_97_68 env, zpc_c⟩,
  Or.inl ⟨126, zf_zm_97_69 env, zpc_c⟩,
  Or.inl ⟨128, zf_zm_97_70 env, zpc_c⟩,
  Or.inl ⟨131, zf_zm_97_71 env, zpc_c⟩,
  Or.inl ⟨132, zf_zm_97_72 env, zpc_c⟩,
  Or.inl ⟨135, zf_zm_97_73 env, zpc_c⟩,
  Or.inl ⟨136, zf_zm_97_74 env, zpc_c⟩,
  Or.inl ⟨138, zf_zm_97_75 env, zpc_c⟩,
  Or.inl ⟨140, zf_zm_97_76 env, zpc_c⟩,
  Or.inl ⟨141, zf_zm_97_77 env, zpc_c⟩,
  Or.inl ⟨142, zf_zm_97_78 env, zpc_c⟩,
  Or.inl ⟨145, zf_zm_97_79 env, zpc_c⟩,
  Or.inl ⟨146, zf_zm_97_80 env, zpc_c⟩,
  Or.inl ⟨147, zf_zm_97_81 env, zpc_c⟩,
  Or.inl ⟨148, zf_zm_97_82 env, zpc_c⟩,
  Or.inl ⟨151, zf_zm_97_83 env, zpc_c⟩,
  Or.inl ⟨152, zf_zm_97_84 env, zpc_c⟩,
  Or.inl ⟨153, zf_zm_97_85 env, zpc_c⟩,
  Or.inl ⟨154, zf_zm_97_86 env, zpc_c⟩,
  Or.inl ⟨157, zf_zm_97_87 env, zpc_c⟩,
  Or.inl ⟨158, zf_zm_97_88 env, zpc_c⟩,
  Or.inl ⟨159, zf_zm_97_89 env, zpc_c⟩,
  Or.inl ⟨160, zf_zm_97_90 env, zpc_c⟩,
  Or.inl ⟨163, zf_zm_97_91 env, zpc_c⟩,
  Or.inl ⟨164, zf_zm_97_92 env, zpc_c⟩,
  Or.inl ⟨165, zf_zm_97_93 env, zpc_c⟩,
  Or.inl ⟨166, zf_zm_97_94 env, zpc_c⟩,
  Or.inl ⟨169, zf_zm_97_95 env, zpc_c⟩,
  Or.inl ⟨170, zf_zm_97_96 env, zpc_c⟩,
  Or.inl ⟨171, zf_zm_97_97 env, zpc_c⟩,
  Or.inl ⟨172, zf_zm_97_98 env, zpc_c⟩,
  Or.inl ⟨175, zf_zm_97_99 env, zpc_c⟩,
  Or.inl ⟨176, zf_zm_97_100 env, zpc_c⟩,
  Or.inl ⟨177, zf_zm_97_101 env, zpc_c⟩,
  Or.inl ⟨179, zf_zm_97_102 env, zpc_c⟩,
  Or.inl ⟨182, zf_zm_97_103 env, zpc_c⟩,
  Or.inl ⟨183, zf_zm_97_104 env, zpc_c⟩,
  Or.inl ⟨184, zf_zm_97_105 env, zpc_c⟩,
  Or.inl ⟨186, zf_zm_97_106 env, zpc_c⟩,
  Or.inl ⟨189, zf_zm_97_107 env, zpc_c⟩,
  Or.inl ⟨190, zf_zm_97_108 env, zpc_c⟩,
  Or.inl ⟨191, zf_zm_97_109 env, zpc_c⟩,
  Or.inl ⟨193, zf_zm_97_110 env, zpc_c⟩,
  Or.inl ⟨196, zf_zm_97_111 env, zpc_c⟩,
  Or.inl ⟨197, zf_zm_97_112 env, zpc_c⟩,
  Or.inl ⟨198, zf_zm_97_113 env, zpc_c⟩,
  Or.inl ⟨200, zf_zm_97_114 env, zpc_c⟩,
  Or.inl ⟨203, zf_zm_97_115 env, zpc_c⟩,
  Or.inl ⟨204, zf_zm_97_116 env, zpc_c⟩,
  Or.inl ⟨207, zf_zm_97_117 env, zpc_c⟩,
  Or.inl ⟨208, zf_zm_97_118 env, zpc_c⟩,
  Or.inl ⟨211, zf_zm_97_119 env, zpc_c⟩,
  Or.inl ⟨214, zf_zm_97_120 env, zpc_c⟩,
  Or.inl ⟨215, zf_zm_97_121 env, zpc_c⟩,
  Or.inl ⟨216, zf_zm_97_122 env, zpc_c⟩,
  Or.inl ⟨218, zf_zm_97_123 env, zpc_c⟩,
  Or.inl ⟨221, zf_zm_97_124 env, zpc_c⟩,
  Or.inl ⟨222, zf_zm_97_125 env, zpc_c⟩,
  Or.inl ⟨223, zf_zm_97_126 env, zpc_c⟩,
  Or.inl ⟨225, zf_zm_97_127 env, zpc_c⟩,
  Or.inl ⟨228, zf_zm_97_128 env, zpc_c⟩,
  Or.inl ⟨229, zf_zm_97_129 env, zpc_c⟩,
  Or.inl ⟨230, zf_zm_97_130 env, zpc_c⟩,
  Or.inl ⟨233, zf_zm_97_131 env, zpc_c⟩,
  Or.inl ⟨234, zf_zm_97_132 env, zpc_c⟩,
  Or.inl ⟨235, zf_zm_97_133 env, zpc_c⟩,
  Or.inl ⟨238, zf_zm_97_134 env, zpc_c⟩,
  Or.inl ⟨239, zf_zm_97_135 env, zpc_c⟩,
  Or.inl ⟨240, zf_zm_97_136 env, zpc_c⟩,
  Or.inl ⟨243, zf_zm_97_137 env, zpc_c⟩,
  Or.inl ⟨246, zf_zm_97_138 env, zpc_c⟩,
  Or.inl ⟨249, zf_zm_97_139 env, zpc_c⟩,
  Or.inr (Or.inl (zf_zm_97_140 env)), trivial⟩
theorem zf_zm_98_0 (env : List (Nat × Nat)) : zI9 98 zY_98 zm_98 env (0, 63, 1, 0, 0) 1 := zi_iload_n (by decide +kernel : decode zY_98.2.1 0 = .ok (.iload_n 1, 1)) rfl
theorem zf_zm_98_1 (env : List (Nat × Nat)) : zI9 98 zY_98 zm_98 env (1, 40, 0, 0, 0) 68 := zi_switch (df := 53) (lo := 0) (tg := [2, 5, 10, 13, 16, 22, 22, 30, 30, 37, 37, 45, 45]) (by decide +kernel : decode zY_98.2.1 1 = .ok (.tableswitch 137 0 12 #[67, 72, 79, 84, 89, 97, 97, 107, 107, 116, 116, 127, 127], 67)) rfl (by decide) (by decide +kernel) (by decide +kernel)
theorem zf_zm_98_2 (env : List (Nat × Nat)) : zI9 98 zY_98 zm_98 env (68, 0, 0, 0, 0) 69 := zi_aload_n (by decide +kernel : decode zY_98.2.1 68 = .ok (.aload_n 0, 1)) rfl
theorem zf_zm_98_3 (env : List (Nat × Nat)) : zI9 98 zY_98 zm_98 env (69, 1, 12, 12, 1) 72 := zi_getf (i := 71) (N := 21) (C := "TransportPair$Streams") (ref := "TransportPair$Streams") (T := zF_12) (by decide +kernel : decode zY_98.2.1 69 = .ok (.getfield 71, 3)) rfl zuw_12 (by decide) (zw_T zwd_528) rfl
theorem zf_zm_98_4 (env : List (Nat × Nat)) : zR9 98 env (72, 11, 1, 0, 0) := zi_lret (by decide +kernel : decode (zYf 98).2.1 72 = .ok (.lreturn, 1)) rfl
theorem zf_zm_98_5 (env : List (Nat × Nat)) : zI9 98 zY_98 zm_98 env (73, 0, 0, 0, 0) 74 := zi_aload_n (by decide +kernel : decode zY_98.2.1 73 = .ok (.aload_n 0, 1)) rfl
theorem zf_zm_98_6 (env : List (Nat × Nat)) : zI9 98 zY_98 zm_98 env (74, 1, 12, 7, 2) 77 := zi_getf (i := 32) (N := 21) (C := "TransportPair$Streams") (ref := "TransportPair$Streams") (T := zF_12) (by decide +kernel : decode zY_98.2.1 74 = .ok (.getfield 32, 3)) rfl zuw_12 (by decide) (zw_T zwd_510) rfl
theorem zf_zm_98_7 (env : List (Nat × Nat)) : zI9 98 zY_98 zm_98 env (77, 2, 4, 0, 0) 78 := zi_iconst (by decide +kernel : decode zY_98.2.1 77 = .ok (.iconst 4, 1)) (by decide +kernel)
theorem zf_zm_98_8 (env : List (Nat × Nat)) : zI9 98 zY_98 zm_98 env (78, 26, 0, 0, 0) 79 := zi_lald (by decide +kernel : decode zY_98.2.1 78 = .ok (.laload, 1))
theorem zf_zm_98_9 (env : List (Nat × Nat)) : zR9 98 env (79, 11, 1, 0, 0) := zi_lret (by decide +kernel : decode (zYf 98).2.1 79 = .ok (.lreturn, 1)) rfl
theorem zf_zm_98_10 (env : List (Nat × Nat)) : zI9 98 zY_98 zm_98 env (80, 0, 0, 0, 0) 81 := zi_aload_n (by decide +kernel : decode zY_98.2.1 80 = .ok (.aload_n 0, 1)) rfl
theorem zf_zm_98_11 (env : List (Nat × Nat)) : zI9 98 zY_98 zm_98 env (81, 1, 12, 13, 1) 84 := zi_getf (i := 75) (N := 21) (C := "TransportPair$Streams") (ref := "TransportPair$Streams") (T := zF_12) (by decide +kernel : decode zY_98.2.1 81 = .ok (.getfield 75, 3)) rfl zuw_12 (by decide) (zw_T zwd_529) rfl
theorem zf_zm_98_12 (env : List (Nat × Nat)) : zR9 98 env (84, 11, 1, 0, 0) := zi_lret (by decide +kernel : decode (zYf 98).2.1 84 = .ok (.lreturn, 1)) rfl
theorem zf_zm_98_13 (env : List (Nat × Nat)) : zI9 98 zY_98 zm_98 env (85, 0, 0, 0, 0) 86 := zi_aload_n (by decide +kernel : decode zY_98.2.1 85 = .ok (.aload_n 0, 1)) rfl
theorem zf_zm_98_14 (env : List (Nat × Nat)) : zI9 98 zY_98 zm_98 env (86, 1, 12, 14, 1) 89 := zi_getf (i := 78) (N := 21) (C := "TransportPair$Streams") (ref := "TransportPair$Streams") (T := zF_12) (by decide +kernel : decode zY_98.2.1 86 = .ok (.getfield 78, 3)) rfl zuw_12 (by decide) (zw_T zwd_530) rfl
theorem zf_zm_98_15 (env : List (Nat × Nat)) : zR9 98 env (89, 11, 1, 0, 0) := zi_lret (by decide +kernel : decode (zYf 98).2.1 89 = .ok (.lreturn, 1)) rfl
theorem zf_zm_98_16 (env : List (Nat × Nat)) : zI9 98 zY_98 zm_98 env (90, 0, 0, 0, 0) 91 := zi_aload_n (by decide +kernel : decode zY_98.2.1 90 = .ok (.aload_n 0, 1)) rfl
theorem zf_zm_98_17 (env : List (Nat × Nat)) : zI9 98 zY_98 zm_98 env (91, 1, 12, 8, 2) 94 := zi_getf (i := 68) (N := 21) (C := "TransportPair$Streams") (ref := "TransportPair$Streams") (T := zF_12) (by decide +kernel : decode zY_98.2.1 91 = .ok (.getfield 68, 3)) rfl zuw_12 (by decide) (zw_T zwd_527) rfl
theorem zf_zm_98_18 (env : List (Nat × Nat)) : zI9 98 zY_98 zm_98 env (94, 2, 4, 0, 0) 95 := zi_iconst (by decide +kernel : decode zY_98.2.1 94 = .ok (.iconst 4, 1)) (by decide +kernel)
theorem zf_zm_98_19 (env : List (Nat × Nat)) : zI9 98 zY_98 zm_98 env (95, 8, 0, 0, 0) 96 := zi_iald (zscr_ok (by decide +kernel : decode zY_98.2.1 95 = .ok (.iaload, 1))) (by decide +kernel : decode zY_98.2.1 95 = .ok (.iaload, 1))
theorem zf_zm_98_20 (env : List (Nat × Nat)) : zI9 98 zY_98 zm_98 env (96, 16, 0, 0, 0) 97 := zi_i2l (by decide +kernel : decode zY_98.2.1 96 = .ok (.i2l, 1))
theorem zf_zm_98_21 (env : List (Nat × Nat)) : zR9 98 env (97, 11, 1, 0, 0) := zi_lret (by decide +kernel : decode (zYf 98).2.1 97 = .ok (.lreturn, 1)) rfl
theorem zf_zm_98_22 (env : List (Nat × Nat)) : zI9 98 zY_98 zm_98 env (98, 0, 0, 0, 0) 99 := zi_aload_n (by decide +kernel : decode zY_98.2.1 98 = .ok (.aload_n 0, 1)) rfl
theorem zf_zm_98_23 (env : List (Nat × Nat)) : zI9 98 zY_98 zm_98 env (99, 1, 12, 5, 2) 102 := zi_getf (i := 25) (N := 21) (C := "TransportPair$Streams") (ref := "TransportPair$Streams") (T := zF_12) (by decide +kernel : decode zY_98.2.1 99 = .ok (.getfield 25, 3)) rfl zuw_12 (by decide) (zw_T zwd_508) rfl
theorem zf_zm_98_24 (env : List (Nat × Nat)) : zI9 98 zY_98 zm_98 env (102, 63, 1, 0, 0) 103 := zi_iload_n (by decide +kernel : decode zY_98.2.1 102 = .ok (.iload_n 1, 1)) rfl
theorem zf_zm_98_25 (env : List (Nat × Nat)) : zI9 98 zY_98 zm_98 env (103, 2, 5, 0, 0) 104 := zi_iconst (by decide +kernel : decode zY_98.2.1 103 = .ok (.iconst 5, 1)) (by decide +kernel)
theorem zf_zm_98_26 (env : List (Nat × Nat)) : zI9 98 zY_98 zm_98 env (104, 37, 0, 0, 0) 105 := zi_isub (by decide +kernel : decode zY_98.2.1 104 = .ok (.isub, 1))
theorem zf_zm_98_27 (env : List (Nat × Nat)) : zI9 98 zY_98 zm_98 env (105, 8, 0, 0, 0) 106 := zi_iald (zscr_ok (by decide +kernel : decode zY_98.2.1 105 = .ok (.iaload, 1))) (by decide +kernel : decode zY_98.2.1 105 = .ok (.iaload, 1))
theorem zf_zm_98_28 (env : List (Nat × Nat)) : zI9 98 zY_98 zm_98 env (106, 16, 0, 0, 0) 107 := zi_i2l (by decide +kernel : decode zY_98.2.1 106 = .ok (.i2l, 1))
theorem zf_zm_98_29 (env : List (Nat × Nat)) : zR9 98 env (107, 11, 1, 0, 0) := zi_lret (by decide +kernel : decode (zYf 98).2.1 107 = .ok (.lreturn, 1)) rfl
theorem zf_zm_98_30 (env : List (Nat × Nat)) : zI9 98 zY_98 zm_98 env (108, 0, 0, 0, 0) 109 := zi_aload_n (by decide +kernel : decode zY_98.2.1 108 = .ok (.aload_n 0, 1)) rfl
theorem zf_zm_98_31 (env : List (Nat × Nat)) : zI9 98 zY_98 zm_98 env (109, 1, 12, 7, 2) 112 := zi_getf (i := 32) (N := 21) (C := "TransportPair$Streams") (ref := "TransportPair$Streams") (T := zF_12) (by decide +kernel : decode zY_98.2.1 109 = .ok (.getfield 32, 3)) rfl zuw_12 (by decide) (zw_T zwd_510) rfl
theorem zf_zm_98_32 (env : List (Nat × Nat)) : zI9 98 zY_98 zm_98 env (112, 63, 1, 0, 0) 113 := zi_iload_n (by decide +kernel : decode zY_98.2.1 112 = .ok (.iload_n 1, 1)) rfl
theorem zf_zm_98_33 (env : List (Nat × Nat)) : zI9 98 zY_98 zm_98 env (113, 2, 1, 0, 0) 114 := zi_iconst (by decide +kernel : decode zY_98.2.1 113 = .ok (.iconst 1, 1)) (by decide +kernel)
theorem zf_zm_98_34 (env : List (Nat × Nat)) : zI9 98 zY_98 zm_98 env (114, 9, 0, 0, 0) 115 := zi_iadd (by decide +kernel : decode zY_98.2.1 114 = .ok (.iadd, 1))
theorem zf_zm_98_35 (env : List (Nat × Nat)) : zI9 98 zY_98 zm_98 env (115, 26, 0, 0, 0) 116 := zi_lald (by decide +kernel : decode zY_98.2.1 115 = .ok (.laload, 1))
theorem zf_zm_98_36 (env : List (Nat × Nat)) : zR9 98 env (116, 11, 1, 0, 0) := zi_lret (by decide +kernel : decode (zYf 98).2.1 116 = .ok (.lreturn, 1)) rfl
theorem zf_zm_98_37 (env : List (Nat × Nat)) : zI9 98 zY_98 zm_98 env (117, 0, 0, 0, 0) 118 := zi_aload_n (by decide +kernel : decode zY_98.2.1 117 = .ok (.aload_n 0, 1)) rfl
theorem zf_zm_98_38 (env : List (Nat × Nat)) : zI9 98 zY_98 zm_98 env (118, 1, 12, 6, 2) 121 := zi_getf (i := 29) (N := 21) (C := "TransportPair$Streams") (ref := "TransportPair$Streams") (T := zF_12) (by decide +kernel : decode zY_98.2.1 118 = .ok (.getfield 29, 3)) rfl zuw_12 (by decide) (zw_T zwd_509) rfl
theorem zf_zm_98_39 (env : List (Nat × Nat)) : zI9 98 zY_98 zm_98 env (121, 63, 1, 0, 0) 122 := zi_iload_n (by decide +kernel : decode zY_98.2.1 121 = .ok (.iload_n 1, 1)) rfl
theorem zf_zm_98_40 (env : List (Nat × Nat)) : zI9 98 zY_98 zm_98 env (122, 2, 9, 0, 0) 124 := zi_bipush (by decide +kernel : decode zY_98.2.1 122 = .ok (.bipush 9, 2)) (by decide +kernel)
theorem zf_zm_98_41 (env : List (Nat × Nat)) : zI9 98 zY_98 zm_98 env (124, 37, 0, 0, 0) 125 := zi_isub (by decide +kernel : decode zY_98.2.1 124 = .ok (.isub, 1))
theorem zf_zm_98_42 (env : List (Nat × Nat)) : zI9 98 zY_98 zm_98 env (125, 8, 0, 0, 0) 126 := zi_iald (zscr_ok (by decide +kernel : decode zY_98.2.1 125 = .ok (.iaload, 1))) (by decide +kernel : decode zY_98.2.1 125 = .ok (.iaload, 1))
theorem zf_zm_98_43 (env : List (Nat × Nat)) : zI9 98 zY_98 zm_98 env (126, 16, 0, 0, 0) 127 := zi_i2l (by decide +kernel : decode zY_98.2.1 126 = .ok (.i2l, 1))
theorem zf_zm_98_44 (env : List (Nat × Nat)) : zR9 98 env (127, 11, 1, 0, 0) := zi_lret (by decide +kernel : decode (zYf 98).2.1 127 = .ok (.lreturn, 1)) rfl
theorem zf_zm_98_45 (env : List (Nat × Nat)) : zI9 98 zY_98 zm_98 env (128, 0, 0, 0, 0) 129 := zi_aload_n (by decide +kernel : decode zY_98.2.1 128 = .ok (.aload_n 0, 1)) rfl
theorem zf_zm_98_46 (env : List (Nat × Nat)) : zI9 98 zY_98 zm_98 env (129, 1, 12, 8, 2) 132 := zi_getf (i := 68) (N := 21) (C := "TransportPair$Streams") (ref := "TransportPair$Streams") (T := zF_12) (by decide +kernel : decode zY_98.2.1 129 = .ok (.getfield 68, 3)) rfl zuw_12 (by decide) (zw_T zwd_527) rfl
theorem zf_zm_98_47 (env : List (Nat × Nat)) : zI9 98 zY_98 zm_98 env (132, 63, 1, 0, 0) 133 := zi_iload_n (by decide +kernel : decode zY_98.2.1 132 = .ok (.iload_n 1, 1)) rfl
theorem zf_zm_98_48 (env : List (Nat × Nat)) : zI9 98 zY_98 zm_98 env (133, 2, 3, 0, 0) 134 := zi_iconst (by decide +kernel : decode zY_98.2.1 133 = .ok (.iconst 3, 1)) (by decide +kernel)
theorem zf_zm_98_49 (env : List (Nat × Nat)) : zI9 98 zY_98 zm_98 env (134, 37, 0, 0, 0) 135 := zi_isub (by decide +kernel : decode zY_98.2.1 134 = .ok (.isub, 1))
theorem zf_zm_98_50 (env : List (Nat × Nat)) : zI9 98 zY_98 zm_98 env (135, 8, 0, 0, 0) 136 := zi_iald (zscr_ok (by decide +kernel : decode zY_98.2.1 135 = .ok (.iaload, 1))) (by decide +kernel : decode zY_98.2.1 135 = .ok (.iaload, 1))
theorem zf_zm_98_51 (env : List (Nat × Nat)) : zI9 98 zY_98 zm_98 env (136, 16, 0, 0, 0) 137 := zi_i2l (by decide +kernel : decode zY_98.2.1 136 = .ok (.i2l, 1))
theorem zf_zm_98_52 (env : List (Nat × Nat)) : zR9 98 env (137, 11, 1, 0, 0) := zi_lret (by decide +kernel : decode (zYf 98).2.1 137 = .ok (.lreturn, 1)) rfl
theorem zf_zm_98_53 (env : List (Nat × Nat)) : zI9 98 zY_98 zm_98 env (138, 0, 0, 0, 0) 139 := zi_aload_n (by decide +kernel : decode zY_98.2.1 138 = .ok (.aload_n 0, 1)) rfl
theorem zf_zm_98_54 (env : List (Nat × Nat)) : zI9 98 zY_98 zm_98 env (139, 1, 12, 15, 0) 142 := zi_getf (i := 81) (N := 21) (C := "TransportPair$Streams") (ref := "TransportPair$Streams") (T := zF_12) (by decide +kernel : decode zY_98.2.1 139 = .ok (.getfield 81, 3)) rfl zuw_12 (by decide) (zw_T zwd_531) rfl
theorem zf_zm_98_55 (env : List (Nat × Nat)) : zI9 98 zY_98 zm_98 env (142, 16, 0, 0, 0) 143 := zi_i2l (by decide +kernel : decode zY_98.2.1 142 = .ok (.i2l, 1))
theorem zf_zm_98_56 (env : List (Nat × Nat)) : zR9 98 env (143, 11, 1, 0, 0) := zi_lret (by decide +kernel : decode (zYf 98).2.1 143 = .ok (.lreturn, 1)) rfl
set_option maxRecDepth 100000 in
theorem zc_zm_98 (env : List (Nat × Nat)) : zcode zX (z_QF zEX zcl zft) (z_zm zEX zX zWL zcl zft zYf) zYf zW zET zcl zft (zGv env) 98 zm_98 zm_98.1 := ⟨Or.inl ⟨1, zf_zm_98_0 env, zpc_c⟩,
  Or.inl ⟨68, zf_zm_98_1 env, zpc_c⟩,
  Or.inl ⟨69, zf_zm_98_2 env, zpc_c⟩,
  Or.inl ⟨72, zf_zm_98_3 env, zpc_c⟩,
  Or.inr (Or.inl (zf_zm_98_4 env)),
  Or.inl ⟨74, zf_zm_98_5 env, zpc_c⟩,
  Or.inl ⟨77, zf_zm_98_6 env, zpc_c⟩,
  Or.inl ⟨78, zf_zm_98_7 env, zpc_c⟩,
  Or.inl ⟨79, zf_zm_98_8 env, zpc_c⟩,
  Or.inr (Or.inl (zf_zm_98_9 env)),
  Or.inl ⟨81, zf_zm_98_10 env, zpc_c⟩,
  Or.inl ⟨84, zf_zm_98_11 env, zpc_c⟩,
  Or.inr (Or.inl (zf_zm_98_12 env)),
  Or.inl ⟨86, zf_zm_98_13 env, zpc_c⟩,
  Or.inl ⟨89, zf_zm_98_14 env, zpc_c⟩,
  Or.inr (Or.inl (zf_zm_98_15 env)),
  Or.inl ⟨91, zf_zm_98_16 env, zpc_c⟩,
  Or.inl ⟨94, zf_zm_98_17 env, zpc_c⟩,
  Or.inl ⟨95, zf_zm_98_18 env, zpc_c⟩,
  Or.inl ⟨96, zf_zm_98_19 env, zpc_c⟩,
  Or.inl ⟨97, zf_zm_98_20 env, zpc_c⟩,
  Or.inr (Or.inl (zf_zm_98_21 env)),
  Or.inl ⟨99, zf_zm_98_22 env, zpc_c⟩,
  Or.inl ⟨102, zf_zm_98_23 env, zpc_c⟩,
  Or.inl ⟨103, zf_zm_98_24 env, zpc_c⟩,
  Or.inl ⟨104, zf_zm_98_25 env, zpc_c⟩,
  Or.inl ⟨105, zf_zm_98_26 env, zpc_c⟩,
  Or.inl ⟨106, zf_zm_98_27 env, zpc_c⟩,
  Or.inl ⟨107, zf_zm_98_28 env, zpc_c⟩,
  Or.inr (Or.inl (zf_zm_98_29 env)),
  Or.inl ⟨109, zf_zm_98_30 env, zpc_c⟩,
  Or.inl ⟨112, zf_zm_98_31 env, zpc_c⟩,
  Or.inl ⟨113, zf_zm_98_32 env, zpc_c⟩,
  Or.inl ⟨114, zf_zm_98_33 env, zpc_c⟩,
  Or.inl ⟨115, zf_zm_98_34 env, zpc_c⟩,
  Or.inl ⟨116, zf_zm_98_35 env, zpc_c⟩,
  Or.inr (Or.inl (zf_zm_98_36 env)),
  Or.inl ⟨118, zf_zm_98_37 env, zpc_c⟩,
  Or.inl ⟨121, zf_zm_98_38 env, zpc_c⟩,
  Or.inl ⟨122, zf_zm_98_39 env, zpc_c⟩,
  Or.inl ⟨124, zf_zm_98_40 env, zpc_c⟩,
  Or.inl ⟨125, zf_zm_98_41 env, zpc_c⟩,
  Or.inl ⟨126, zf_zm_98_42 env, zpc_c⟩,
  Or.inl ⟨127, zf_zm_98_43 env, zpc_c⟩,
  Or.inr (Or.inl (zf_zm_98_44 env)),
  Or.inl ⟨129, zf_zm_98_45 env, zpc_c⟩,
  Or.inl ⟨132, zf_zm_98_46 env, zpc_c⟩,
  Or.inl ⟨133, zf_zm_98_47 env, zpc_c⟩,
  Or.inl ⟨134, zf_zm_98_48 env, zpc_c⟩,
  Or.inl ⟨135, zf_zm_98_49 env, zpc_c⟩,
  Or.inl ⟨136, zf_zm_98_50 env, zpc_c⟩,
  Or.inl ⟨137, zf_zm_98_51 env, zpc_c⟩,
  Or.inr (Or.inl (zf_zm_98_52 env)),
  Or.inl ⟨139, zf_zm_98_53 env, zpc_c⟩,
  Or.inl ⟨142, zf_zm_98_54 env, zpc_c⟩,
  Or.inl ⟨143, zf_zm_98_55 env, zpc_c⟩,
  Or.inr (Or.inl (zf_zm_98_56 env)), trivial⟩
theorem zf_zm_99_0 (env : List (Nat × Nat)) : zI9 99 zY_99 zm_99 env (0, 63, 1, 0, 0) 1 := zi_iload_n (by decide +kernel : decode zY_99.2.1 0 = .ok (.iload_n 1, 1)) rfl
theorem zf_zm_99_1 (env : List (Nat × Nat)) : zI9 99 zY_99 zm_99 env (1, 22, 5, 0, 0) 4 := zi_if_lt (off := 10) (t := 11) (by decide +kernel : decode zY_99.2.1 1 = .ok (.ifCond .lt 10, 3)) (by decide) (by decide +kernel)
theorem zf_zm_99_2 (env : List (Nat × Nat)) : zI9 99 zY_99 zm_99 env (4, 63, 1, 0, 0) 5 := zi_iload_n (by decide +kernel : decode zY_99.2.1 4 = .ok (.iload_n 1, 1)) rfl
theorem zf_zm_99_3 (env : List (Nat × Nat)) : zI9 99 zY_99 zm_99 env (5, 2, 256, 0, 0) 8 := zi_sipush (by decide +kernel : decode zY_99.2.1 5 = .ok (.sipush 256, 3)) (by decide +kernel)
theorem zf_zm_99_4 (env : List (Nat × Nat)) : zI9 99 zY_99 zm_99 env (8, 30, 7, 0, 0) 11 := zi_icmp_lt (off := 7) (t := 15) (by decide +kernel : decode zY_99.2.1 8 = .ok (.if_icmp .lt 7, 3)) (by decide) (by decide +kernel)
theorem zf_zm_99_5 (env : List (Nat × Nat)) : zI9 99 zY_99 zm_99 env (11, 49, 0, 0, 0) 12 := zi_null (by decide +kernel : decode zY_99.2.1 11 = .ok (.aconst_null, 1))
theorem zf_zm_99_6 (env : List (Nat × Nat)) : zI9 99 zY_99 zm_99 env (12, 7, 11, 0, 0) 15 := zi_goto (off := 9) (t := 21) (by decide +kernel : decode zY_99.2.1 12 = .ok (.goto 9, 3)) (by decide) (by decide +kernel)
theorem zf_zm_99_7 (env : List (Nat × Nat)) : zI9 99 zY_99 zm_99 env (15, 0, 0, 0, 0) 16 := zi_aload_n (by decide +kernel : decode zY_99.2.1 15 = .ok (.aload_n 0, 1)) rfl
theorem zf_zm_99_8 (env : List (Nat × Nat)) : zI9 99 zY_99 zm_99 env (16, 1, 12, 2, 2) 19 := zi_getf (i := 11) (N := 21) (C := "TransportPair$Streams") (ref := "TransportPair$Streams") (T := zF_12) (by decide +kernel : decode zY_99.2.1 16 = .ok (.getfield 11, 3)) rfl zuw_12 (by decide) (zw_T zwd_504) rfl
theorem zf_zm_99_9 (env : List (Nat × Nat)) : zI9 99 zY_99 zm_99 env (19, 63, 1, 0, 0) 20 := zi_iload_n (by decide +kernel : decode zY_99.2.1 19 = .ok (.iload_n 1, 1)) rfl
theorem zf_zm_99_10 (env : List (Nat × Nat)) : zI9 99 zY_99 zm_99 env (20, 19, 0, 0, 0) 21 := zi_aald zft_all (by decide +kernel : decode zY_99.2.1 20 = .ok (.aaload, 1))
theorem zf_zm_99_11 (env : List (Nat × Nat)) : zR9 99 env (21, 11, 2, 0, 0) := zi_aret (by decide +kernel : decode (zYf 99).2.1 21 = .ok (.areturn, 1)) rfl (Or.inl ⟨_, rfl⟩)
set_option maxRecDepth 100000 in
theorem zc_zm_99 (env : List (Nat × Nat)) : zcode zX (z_QF zEX zcl zft) (z_zm zEX zX zWL zcl zft zYf) zYf zW zET zcl zft (zGv env) 99 zm_99 zm_99.1 := ⟨Or.inl ⟨1, zf_zm_99_0 env, zpc_c⟩,
  Or.inl ⟨4, zf_zm_99_1 env, zpc_c⟩,
  Or.inl ⟨5, zf_zm_99_2 env, zpc_c⟩,
  Or.inl ⟨8, zf_zm_99_3 env, zpc_c⟩,
  Or.inl ⟨11, zf_zm_99_4 env, zpc_c⟩,
  Or.inl ⟨12, zf_zm_99_5 env, zpc_c⟩,
  Or.inl ⟨15, zf_zm_99_6 env, zpc_c⟩,
  Or.inl ⟨16, zf_zm_99_7 env, zpc_c⟩,
  Or.inl ⟨19, zf_zm_99_8 env, zpc_c⟩,
  Or.inl ⟨20, zf_zm_99_9 env, zpc_c⟩,
  Or.inl ⟨21, zf_zm_99_10 env, zpc_c⟩,
  Or.inr (Or.inl (zf_zm_99_11 env)), trivial⟩
theorem zf_zm_100_0 (env : List (Nat × Nat)) : zI9 100 zY_100 zm_100 env (0, 63, 1, 0, 0) 1 := zi_iload_n (by decide +kernel : decode zY_100.2.1 0 = .ok (.iload_n 1, 1)) rfl
theorem zf_zm_100_1 (env : List (Nat × Nat)) : zI9 100 zY_100 zm_100 env (1, 22, 5, 0, 0) 4 := zi_if_lt (off := 10) (t := 11) (by decide +kernel : decode zY_100.2.1 1 = .ok (.ifCond .lt 10, 3)) (by decide) (by decide +kernel)
theorem zf_zm_100_2 (env : List (Nat × Nat)) : zI9 100 zY_100 zm_100 env (4, 63, 1, 0, 0) 5 := zi_iload_n (by decide +kernel : decode zY_100.2.1 4 = .ok (.iload_n 1, 1)) rfl
theorem zf_zm_100_3 (env : List (Nat × Nat)) : zI9 100 zY_100 zm_100 env (5, 2, 256, 0, 0) 8 := zi_sipush (by decide +kernel : decode zY_100.2.1 5 = .ok (.sipush 256, 3)) (by decide +kernel)
theorem zf_zm_100_4 (env : List (Nat × Nat)) : zI9 100 zY_100 zm_100 env (8, 30, 7, 0, 0) 11 := zi_icmp_lt (off := 7) (t := 15) (by decide +kernel : decode zY_100.2.1 8 = .ok (.if_icmp .lt 7, 3)) (by decide) (by decide +kernel)
theorem zf_zm_100_5 (env : List (Nat × Nat)) : zI9 100 zY_100 zm_100 env (11, 49, 0, 0, 0) 12 := zi_null (by decide +kernel : decode zY_100.2.1 11 = .ok (.aconst_null, 1))
theorem zf_zm_100_6 (env : List (Nat × Nat)) : zI9 100 zY_100 zm_100 env (12, 7, 11, 0, 0) 15 := zi_goto (off := 9) (t := 21) (by decide +kernel : decode zY_100.2.1 12 = .ok (.goto 9, 3)) (by decide) (by decide +kernel)
theorem zf_zm_100_7 (env : List (Nat × Nat)) : zI9 100 zY_100 zm_100 env (15, 0, 0, 0, 0) 16 := zi_aload_n (by decide +kernel : decode zY_100.2.1 15 = .ok (.aload_n 0, 1)) rfl
theorem zf_zm_100_8 (env : List (Nat × Nat)) : zI9 100 zY_100 zm_100 env (16, 1, 12, 3, 2) 19 := zi_getf (i := 17) (N := 21) (C := "TransportPair$Streams") (ref := "TransportPair$Streams") (T := zF_12) (by decide +kernel : decode zY_100.2.1 16 = .ok (.getfield 17, 3)) rfl zuw_12 (by decide) (zw_T zwd_506) rfl
theorem zf_zm_100_9 (env : List (Nat × Nat)) : zI9 100 zY_100 zm_100 env (19, 63, 1, 0, 0) 20 := zi_iload_n (by decide +kernel : decode zY_100.2.1 19 = .ok (.iload_n 1, 1)) rfl
theorem zf_zm_100_10 (env : List (Nat × Nat)) : zI9 100 zY_100 zm_100 env (20, 19, 0, 0, 0) 21 := zi_aald zft_all (by decide +kernel : decode zY_100.2.1 20 = .ok (.aaload, 1))
theorem zf_zm_100_11 (env : List (Nat × Nat)) : zR9 100 env (21, 11, 2, 0, 0) := zi_aret (by decide +kernel : decode (zYf 100).2.1 21 = .ok (.areturn, 1)) rfl (Or.inl ⟨_, rfl⟩)
set_option maxRecDepth 100000 in
theorem zc_zm_100 (env : List (Nat × Nat)) : zcode zX (z_QF zEX zcl zft) (z_zm zEX zX zWL zcl zft zYf) zYf zW zET zcl zft (zGv env) 100 zm_100 zm_100.1 := ⟨Or.inl ⟨1, zf_zm_100_0 env, zpc_c⟩,
  Or.inl ⟨4, zf_zm_100_1 env, zpc_c⟩,
  Or.inl ⟨5, zf_zm_100_2 env, zpc_c⟩,
  Or.inl ⟨8, zf_zm_100_3 env, zpc_c⟩,
  Or.inl ⟨11, zf_zm_100_4 env, zpc_c⟩,
  Or.inl ⟨12, zf_zm_100_5 env, zpc_c⟩,
  Or.inl ⟨15, zf_zm_100_6 env, zpc_c⟩,
  Or.inl ⟨16, zf_zm_100_7 env, zpc_c⟩,
  Or.inl ⟨19, zf_zm_100_8 env, zpc_c⟩,
  Or.inl ⟨20, zf_zm_100_9 env, zpc_c⟩,
  Or.inl ⟨21, zf_zm_100_10 env, zpc_c⟩,
  Or.inr (Or.inl (zf_zm_100_11 env)), trivial⟩
theorem zf_zm_101_0 (env : List (Nat × Nat)) : zI9 101 zY_101 zm_101 env (0, 0, 0, 0, 0) 1 := zi_aload_n (by decide +kernel : decode zY_101.2.1 0 = .ok (.aload_n 0, 1)) rfl
theorem zf_zm_101_1 (env : List (Nat × Nat)) : zI9 101 zY_101 zm_101 env (1, 2, 0, 0, 0) 2 := zi_iconst (by decide +kernel : decode zY_101.2.1 1 = .ok (.iconst 0, 1)) (by decide +kernel)
theorem zf_zm_101_2 (env : List (Nat × Nat)) : zI9 101 zY_101 zm_101 env (2, 4, 12, 18, 3) 5 := zi_putf (i := 107) (N := 21) (C := "TransportPair$Streams") (ref := "TransportPair$Streams") (T := zF_12) (by decide +kernel : decode zY_101.2.1 2 = .ok (.putfield 107, 3)) rfl zuw_12 zFt_12 zFn_12 (by decide) (zw_T zwd_532) rfl rfl (ty := .boolean) (by decide +kernel) (rfl)
theorem zf_zm_101_3 (env : List (Nat × Nat)) : zI9 101 zY_101 zm_101 env (5, 0, 0, 0, 0) 6 := zi_aload_n (by decide +kernel : decode zY_101.2.1 5 = .ok (.aload_n 0, 1)) rfl
theorem zf_zm_101_4 (env : List (Nat × Nat)) : zI9 101 zY_101 zm_101 env (6, 1, 12, 5, 2) 9 := zi_getf (i := 25) (N := 21) (C := "TransportPair$Streams") (ref := "TransportPair$Streams") (T := zF_12) (by decide +kernel : decode zY_101.2.1 6 = .ok (.getfield 25, 3)) rfl zuw_12 (by decide) (zw_T zwd_508) rfl
theorem zf_zm_101_5 (env : List (Nat × Nat)) : zI9 101 zY_101 zm_101 env (9, 63, 1, 0, 0) 10 := zi_iload_n (by decide +kernel : decode zY_101.2.1 9 = .ok (.iload_n 1, 1)) rfl
theorem zf_zm_101_6 (env : List (Nat × Nat)) : zI9 101 zY_101 zm_101 env (10, 8, 0, 0, 0) 11 := zi_iald (zscr_ok (by decide +kernel : decode zY_101.2.1 10 = .ok (.iaload, 1))) (by decide +kernel : decode zY_101.2.1 10 = .ok (.iaload, 1))
theorem zf_zm_101_7 (env : List (Nat × Nat)) : zI9 101 zY_101 zm_101 env (11, 16, 0, 0, 0) 12 := zi_i2l (by decide +kernel : decode zY_101.2.1 11 = .ok (.i2l, 1))
theorem zf_zm_101_8 (env : List (Nat × Nat)) : zI9 101 zY_101 zm_101 env (12, 0, 0, 0, 0) 13 := zi_aload_n (by decide +kernel : decode zY_101.2.1 12 = .ok (.aload_n 0, 1)) rfl
theorem zf_zm_101_9 (env : List (Nat × Nat)) : zI9 101 zY_101 zm_101 env (13, 1, 12, 7, 2) 16 := zi_getf (i := 32) (N := 21) (C := "TransportPair$Streams") (ref := "TransportPair$Streams") (T := zF_12) (by decide +kernel : decode zY_101.2.1 13 = .ok (.getfield 32, 3)) rfl zuw_12 (by decide) (zw_T zwd_510) rfl
theorem zf_zm_101_10 (env : List (Nat × Nat)) : zI9 101 zY_101 zm_101 env (16, 2, 8, 0, 0) 18 := zi_bipush (by decide +kernel : decode zY_101.2.1 16 = .ok (.bipush 8, 2)) (by decide +kernel)
theorem zf_zm_101_11 (env : List (Nat × Nat)) : zI9 101 zY_101 zm_101 env (18, 63, 1, 0, 0) 19 := zi_iload_n (by decide +kernel : decode zY_101.2.1 18 = .ok (.iload_n 1, 1)) rfl
theorem zf_zm_101_12 (env : List (Nat × Nat)) : zI9 101 zY_101 zm_101 env (19, 9, 0, 0, 0) 20 := zi_iadd (by decide +kernel : decode zY_101.2.1 19 = .ok (.iadd, 1))
theorem zf_zm_101_13 (env : List (Nat × Nat)) : zI9 101 zY_101 zm_101 env (20, 26, 0, 0, 0) 21 := zi_lald (by decide +kernel : decode zY_101.2.1 20 = .ok (.laload, 1))
theorem zf_zm_101_14 (env : List (Nat × Nat)) : zI9 101 zY_101 zm_101 env (21, 34, 0, 0, 0) 22 := zi_lcmp (by decide +kernel : decode zY_101.2.1 21 = .ok (.lcmp, 1))
theorem zf_zm_101_15 (env : List (Nat × Nat)) : zI9 101 zY_101 zm_101 env (22, 23, 17, 0, 0) 25 := zi_if_ge (off := 14) (t := 36) (by decide +kernel : decode zY_101.2.1 22 = .ok (.ifCond .ge 14, 3)) (by decide) (by decide +kernel)
theorem zf_zm_101_16 (env : List (Nat × Nat)) : zI9 101 zY_101 zm_101 env (25, 99, 0, 0, 0) 36 := zi_none
theorem zf_zm_101_17 (env : List (Nat × Nat)) : zI9 101 zY_101 zm_101 env (36, 0, 0, 0, 0) 37 := zi_aload_n (by decide +kernel : decode zY_101.2.1 36 = .ok (.aload_n 0, 1)) rfl
theorem zf_zm_101_18 (env : List (Nat × Nat)) : zI9 101 zY_101 zm_101 env (37, 1, 12, 11, 2) 40 := zi_getf (i := 44) (N := 21) (C := "TransportPair$Streams") (ref := "TransportPair$Streams") (T := zF_12) (by decide +kernel : decode zY_101.2.1 37 = .ok (.getfield 44, 3)) rfl zuw_12 (by decide) (zw_T zwd_514) rfl
theorem zf_zm_101_19 (env : List (Nat × Nat)) : zI9 101 zY_101 zm_101 env (40, 2, 8, 0, 0) 42 := zi_bipush (by decide +kernel : decode zY_101.2.1 40 = .ok (.bipush 8, 2)) (by decide +kernel)
theorem zf_zm_101_20 (env : List (Nat × Nat)) : zI9 101 zY_101 zm_101 env (42, 63, 1, 0, 0) 43 := zi_iload_n (by decide +kernel : decode zY_101.2.1 42 = .ok (.iload_n 1, 1)) rfl
theorem zf_zm_101_21 (env : List (Nat × Nat)) : zI9 101 zY_101 zm_101 env (43, 9, 0, 0, 0) 44 := zi_iadd (by decide +kernel : decode zY_101.2.1 43 = .ok (.iadd, 1))
theorem zf_zm_101_22 (env : List (Nat × Nat)) : zI9 101 zY_101 zm_101 env (44, 0, 0, 0, 0) 45 := zi_aload_n (by decide +kernel : decode zY_101.2.1 44 = .ok (.aload_n 0, 1)) rfl
theorem zf_zm_101_23 (env : List (Nat × Nat)) : zI9 101 zY_101 zm_101 env (45, 1, 12, 7, 2) 48 := zi_getf (i := 32) (N := 21) (C := "TransportPair$Streams") (ref := "TransportPair$Streams") (T := zF_12) (by decide +kernel : decode zY_101.2.1 45 = .ok (.getfield 32, 3)) rfl zuw_12 (by decide) (zw_T zwd_510) rfl
theorem zf_zm_101_24 (env : List (Nat × Nat)) : zI9 101 zY_101 zm_101 env (48, 2, 8, 0, 0) 50 := zi_bipush (by decide +kernel : decode zY_101.2.1 48 = .ok (.bipush 8, 2)) (by decide +kernel)
theorem zf_zm_101_25 (env : List (Nat × Nat)) : zI9 101 zY_101 zm_101 env (50, 63, 1, 0, 0) 51 := zi_iload_n (by decide +kernel : decode zY_101.2.1 50 = .ok (.iload_n 1, 1)) rfl
theorem zf_zm_101_26 (env : List (Nat × Nat)) : zI9 101 zY_101 zm_101 env (51, 9, 0, 0, 0) 52 := zi_iadd (by decide +kernel : decode zY_101.2.1 51 = .ok (.iadd, 1))
theorem zf_zm_101_27 (env : List (Nat × Nat)) : zI9 101 zY_101 zm_101 env (52, 26, 0, 0, 0) 53 := zi_lald (by decide +kernel : decode zY_101.2.1 52 = .ok (.laload, 1))
theorem zf_zm_101_28 (env : List (Nat × Nat)) : zI9 101 zY_101 zm_101 env (53, 18, 0, 0, 0) 54 := zi_last (by decide +kernel : decode zY_101.2.1 53 = .ok (.lastore, 1))
theorem zf_zm_101_29 (env : List (Nat × Nat)) : zI9 101 zY_101 zm_101 env (54, 2, 4294967295, 0, 0) 55 := zi_iconst (by decide +kernel : decode zY_101.2.1 54 = .ok (.iconst (-1), 1)) (by decide +kernel)
theorem zf_zm_101_30 (env : List (Nat × Nat)) : zR9 101 env (55, 11, 0, 0, 0) := zi_iret (by decide +kernel : decode (zYf 101).2.1 55 = .ok (.ireturn, 1)) rfl
theorem zf_zm_101_31 (env : List (Nat × Nat)) : zI9 101 zY_101 zm_101 env (56, 99, 0, 0, 0) 0 := zi_none
set_option maxRecDepth 100000 in
theorem zc_zm_101 (env : List (Nat × Nat)) : zcode zX (z_QF zEX zcl zft) (z_zm zEX zX zWL zcl zft zYf) zYf zW zET zcl zft (zGv env) 101 zm_101 zm_101.1 := ⟨Or.inl ⟨1, zf_zm_101_0 env, zpc_c⟩,
  Or.inl ⟨2, zf_zm_101_1 env, zpc_c⟩,
  Or.inl ⟨5, zf_zm_101_2 env, zpc_c⟩,
  Or.inl ⟨6, zf_zm_101_3 env, zpc_c⟩,
  Or.inl ⟨9, zf_zm_101_4 env, zpc_c⟩,
  Or.inl ⟨10, zf_zm_101_5 env, zpc_c⟩,
  Or.inl ⟨11, zf_zm_101_6 env, zpc_c⟩,
  Or.inl ⟨12, zf_zm_101_7 env, zpc_c⟩,
  Or.inl ⟨13, zf_zm_101_8 env, zpc_c⟩,
  Or.inl ⟨16, zf_zm_101_9 env, zpc_c⟩,
  Or.inl ⟨18, zf_zm_101_10 env, zpc_c⟩,
  Or.inl ⟨19, zf_zm_101_11 env, zpc_c⟩,
  Or.inl ⟨20, zf_zm_101_12 env, zpc_c⟩,
  Or.inl ⟨21, zf_zm_101_13 env, zpc_c⟩,
  Or.inl ⟨22, zf_zm_101_14 env, zpc_c⟩,
  Or.inl ⟨25, zf_zm_101_15 env, zpc_c⟩,
  Or.inl ⟨36, zf_zm_101_16 env, zpc_c⟩,
  Or.inl ⟨37, zf_zm_101_17 env, zpc_c⟩,
  Or.inl ⟨40, zf_zm_101_18 env, zpc_c⟩,
  Or.inl ⟨42, zf_zm_101_19 env, zpc_c⟩,
  Or.inl ⟨43, zf_zm_101_20 env, zpc_c⟩,
  Or.inl ⟨44, zf_zm_101_21 env, zpc_c⟩,
  Or.inl ⟨45, zf_zm_101_22 env, zpc_c⟩,
  Or.inl ⟨48, zf_zm_101_23 env, zpc_c⟩,
  Or.inl ⟨50, zf_zm_101_24 env, zpc_c⟩,
  Or.inl ⟨51, zf_zm_101_25 env, zpc_c⟩,
  Or.inl ⟨52, zf_zm_101_26 env, zpc_c⟩,
  Or.inl ⟨53, zf_zm_101_27 env, zpc_c⟩,
  Or.inl ⟨54, zf_zm_101_28 env, zpc_c⟩,
  Or.inl ⟨55, zf_zm_101_29 env, zpc_c⟩,
  Or.inr (Or.inl (zf_zm_101_30 env)),
  Or.inl ⟨0, zf_zm_101_31 env, zpc_n⟩, trivial⟩
theorem zf_zm_102_0 (env : List (Nat × Nat)) : zI9 102 zY_102 zm_102 env (0, 0, 0, 0, 0) 1 := zi_aload_n (by decide +kernel : decode zY_102.2.1 0 = .ok (.aload_n 0, 1)) rfl
theorem zf_zm_102_1 (env : List (Nat × Nat)) : zI9 102 zY_102 zm_102 env (1, 2, 0, 0, 0) 2 := zi_iconst (by decide +kernel : decode zY_102.2.1 1 = .ok (.iconst 0, 1)) (by decide +kernel)
theorem zf_zm_102_2 (env : List (Nat × Nat)) : zI9 102 zY_102 zm_102 env (2, 4, 12, 18, 3) 5 := zi_putf (i := 107) (N := 21) (C := "TransportPair$Streams") (ref := "TransportPair$Streams") (T := zF_12) (by decide +kernel : decode zY_102.2.1 2 = .ok (.putfield 107, 3)) rfl zuw_12 zFt_12 zFn_12 (by decide) (zw_T zwd_532) rfl rfl (ty := .boolean) (by decide +kernel) (rfl)
theorem zf_zm_102_3 (env : List (Nat × Nat)) : zI9 102 zY_102 zm_102 env (5, 0, 0, 0, 0) 6 := zi_aload_n (by decide +kernel : decode zY_102.2.1 5 = .ok (.aload_n 0, 1)) rfl
theorem zf_zm_102_4 (env : List (Nat × Nat)) : zI9 102 zY_102 zm_102 env (6, 63, 1, 0, 0) 7 := zi_iload_n (by decide +kernel : decode zY_102.2.1 6 = .ok (.iload_n 1, 1)) rfl
theorem zf_zm_102_5 (env : List (Nat × Nat)) : zC9 102 zm_102 env (7, 66, 99, 130, 14) := zi_call (by decide +kernel) (zr_V (i := 120) (n := 1) (q := ("TransportPair$Streams", zF_12, 21)) zX_ok rfl (zgood_99) (by decide +kernel) (zw_T zwd_149) (zw_T zwd_533) (zw_T zwd_200) rfl (zw_T zwd_201) ⟨by decide +kernel, by decide +kernel, by decide +kernel⟩ rfl (by decide +kernel : decode (zYf 102).2.1 7 = .ok (.invokevirtual 120, 3)))
theorem zf_zm_102_6 (env : List (Nat × Nat)) : zI9 102 zY_102 zm_102 env (10, 65, 4, 0, 0) 12 := zi_astore (by decide +kernel : decode zY_102.2.1 10 = .ok (.astore 4, 2)) (by decide)
theorem zf_zm_102_7 (env : List (Nat × Nat)) : zI9 102 zY_102 zm_102 env (12, 0, 4, 0, 0) 14 := zi_aload (by decide +kernel : decode zY_102.2.1 12 = .ok (.aload 4, 2))
theorem zf_zm_102_8 (env : List (Nat × Nat)) : zI9 102 zY_102 zm_102 env (14, 43, 10, 0, 0) 17 := zi_ifnull (off := 11) (t := 25) (by decide +kernel : decode zY_102.2.1 14 = .ok (.ifnull 11, 3)) (by decide) (by decide +kernel)
theorem zf_zm_102_9 (env : List (Nat × Nat)) : zI9 102 zY_102 zm_102 env (17, 99, 0, 0, 0) 25 := zi_none
theorem zf_zm_102_10 (env : List (Nat × Nat)) : zI9 102 zY_102 zm_102 env (25, 2, 4294967295, 0, 0) 26 := zi_iconst (by decide +kernel : decode zY_102.2.1 25 = .ok (.iconst (-1), 1)) (by decide +kernel)
theorem zf_zm_102_11 (env : List (Nat × Nat)) : zR9 102 env (26, 11, 0, 0, 0) := zi_iret (by decide +kernel : decode (zYf 102).2.1 26 = .ok (.ireturn, 1)) rfl
theorem zf_zm_102_12 (env : List (Nat × Nat)) : zI9 102 zY_102 zm_102 env (27, 99, 0, 0, 0) 0 := zi_none
set_option maxRecDepth 100000 in
theorem zc_zm_102 (env : List (Nat × Nat)) : zcode zX (z_QF zEX zcl zft) (z_zm zEX zX zWL zcl zft zYf) zYf zW zET zcl zft (zGv env) 102 zm_102 zm_102.1 := ⟨Or.inl ⟨1, zf_zm_102_0 env, zpc_c⟩,
  Or.inl ⟨2, zf_zm_102_1 env, zpc_c⟩,
  Or.inl ⟨5, zf_zm_102_2 env, zpc_c⟩,
  Or.inl ⟨6, zf_zm_102_3 env, zpc_c⟩,
  Or.inl ⟨7, zf_zm_102_4 env, zpc_c⟩,
  Or.inr (Or.inr (Or.inl ⟨zf_zm_102_5 env, zpc_c⟩)),
  Or.inl ⟨12, zf_zm_102_6 env, zpc_c⟩,
  Or.inl ⟨14, zf_zm_102_7 env, zpc_c⟩,
  Or.inl ⟨17, zf_zm_102_8 env, zpc_c⟩,
  Or.inl ⟨25, zf_zm_102_9 env, zpc_c⟩,
  Or.inl ⟨26, zf_zm_102_10 env, zpc_c⟩,
  Or.inr (Or.inl (zf_zm_102_11 env)),
  Or.inl ⟨0, zf_zm_102_12 env, zpc_n⟩, trivial⟩
