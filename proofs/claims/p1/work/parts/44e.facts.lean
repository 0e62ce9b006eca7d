/-! FACTS (by program) -/
theorem zf_zfS_0 (env : List (Nat × Nat)) : zI9 5 zY_5 zfS env (0, 99, 0, 0, 0) 195 := zi_none
theorem zf_zfS_1 (env : List (Nat × Nat)) : zI9 5 zY_5 zfS env (195, 63, 2, 0, 0) 196 := zi_iload_n (by decide +kernel : decode zY_5.2.1 195 = .ok (.iload_n 2, 1)) rfl
theorem zf_zfS_2 (env : List (Nat × Nat)) : zI9 5 zY_5 zfS env (196, 2, 64, 0, 0) 198 := zi_bipush (by decide +kernel : decode zY_5.2.1 196 = .ok (.bipush 64, 2)) (by decide +kernel)
theorem zf_zfS_3 (env : List (Nat × Nat)) : zI9 5 zY_5 zfS env (198, 28, 30, 0, 0) 201 := zi_icmp_ge (off := 44) (t := 242) (by decide +kernel : decode zY_5.2.1 198 = .ok (.if_icmp .ge 44, 3)) (by decide) (by decide +kernel)
theorem zf_zfS_4 (env : List (Nat × Nat)) : zI9 5 zY_5 zfS env (201, 63, 1, 0, 0) 202 := zi_iload_n (by decide +kernel : decode zY_5.2.1 201 = .ok (.iload_n 1, 1)) rfl
theorem zf_zfS_5 (env : List (Nat × Nat)) : zC9 5 zfS env (202, 66, 4, 68, 0) := zi_call (by decide +kernel) (zr_S (i := 80) zX_ok rfl (zgood_4) (by decide +kernel) (zw_T zwd_4) (zw_T zwd_938) (zw_T zwd_939) ⟨by decide +kernel, by decide +kernel, by decide +kernel⟩ (by decide +kernel : decode (zYf 5).2.1 202 = .ok (.invokestatic 80, 3)))
theorem zf_zfS_6 (env : List (Nat × Nat)) : zI9 5 zY_5 zfS env (205, 10, 1, 0, 0) 206 := zi_istore_n (by decide +kernel : decode zY_5.2.1 205 = .ok (.istore_n 1, 1)) rfl (by decide)
theorem zf_zfS_7 (env : List (Nat × Nat)) : zI9 5 zY_5 zfS env (206, 63, 2, 0, 0) 207 := zi_iload_n (by decide +kernel : decode zY_5.2.1 206 = .ok (.iload_n 2, 1)) rfl
theorem zf_zfS_8 (env : List (Nat × Nat)) : zI9 5 zY_5 zfS env (207, 2, 8, 0, 0) 209 := zi_bipush (by decide +kernel : decode zY_5.2.1 207 = .ok (.bipush 8, 2)) (by decide +kernel)
theorem zf_zfS_9 (env : List (Nat × Nat)) : zI9 5 zY_5 zfS env (209, 28, 19, 0, 0) 212 := zi_icmp_ge (off := 15) (t := 224) (by decide +kernel : decode zY_5.2.1 209 = .ok (.if_icmp .ge 15, 3)) (by decide) (by decide +kernel)
theorem zf_zfS_10 (env : List (Nat × Nat)) : zI9 5 zY_5 zfS env (212, 0, 0, 0, 0) 213 := zi_aload_n (by decide +kernel : decode zY_5.2.1 212 = .ok (.aload_n 0, 1)) rfl
theorem zf_zfS_11 (env : List (Nat × Nat)) : zI9 5 zY_5 zfS env (213, 1, 17, 0, 2) 216 := zi_getf (i := 7) (N := 25) (C := "TransportPairModel$Seals") (ref := "TransportPairModel$Seals") (T := zF_17) (by decide +kernel : decode zY_5.2.1 213 = .ok (.getfield 7, 3)) rfl zuw_17 (by decide) (zw_T zwd_14) rfl
theorem zf_zfS_12 (env : List (Nat × Nat)) : zI9 5 zY_5 zfS env (216, 63, 2, 0, 0) 217 := zi_iload_n (by decide +kernel : decode zY_5.2.1 216 = .ok (.iload_n 2, 1)) rfl
theorem zf_zfS_13 (env : List (Nat × Nat)) : zI9 5 zY_5 zfS env (217, 0, 0, 0, 0) 218 := zi_aload_n (by decide +kernel : decode zY_5.2.1 217 = .ok (.aload_n 0, 1)) rfl
theorem zf_zfS_14 (env : List (Nat × Nat)) : zI9 5 zY_5 zfS env (218, 63, 1, 0, 0) 219 := zi_iload_n (by decide +kernel : decode zY_5.2.1 218 = .ok (.iload_n 1, 1)) rfl
theorem zf_zfS_15 (env : List (Nat × Nat)) : zI9 5 zY_5 zfS env (219, 2, 2, 0, 0) 220 := zi_iconst (by decide +kernel : decode zY_5.2.1 219 = .ok (.iconst 2, 1)) (by decide +kernel)
theorem zf_zfS_16 (env : List (Nat × Nat)) : zI9 5 zY_5 zfS env (220, 72, 1, 0, 0) 220 := zi_forget1
theorem zf_zfS_17 (env : List (Nat × Nat)) : zIok zX (zYf 5).1.cls (zYf 5).1.name (zYf 5).2.1 (zYf 5).2.2.1 (zW 5) zcl zft (zGv env) zfS (220, 76, 2, 198, 19) 223 := zi_sum (q := zs2) rfl zsok_2 (zr_V (i := 84) (n := 2) (q := ("TransportPairModel$Seals", zF_17, 25)) zX_ok rfl (zgood_2) (by decide +kernel) (zw_T zwd_4) (zw_T zwd_940) (zw_T zwd_941) rfl (zw_T (zt_sel (y := ⟨"TransportPairModel$Seals","rootOf","(II)J"⟩) (n := 25) 98 (by decide +kernel))) ⟨by decide +kernel, by decide +kernel, by decide +kernel⟩ rfl (by decide +kernel : decode (zYf 5).2.1 220 = .ok (.invokevirtual 84, 3)))
theorem zf_zfS_18 (env : List (Nat × Nat)) : zI9 5 zY_5 zfS env (223, 18, 0, 0, 0) 224 := zi_last (by decide +kernel : decode zY_5.2.1 223 = .ok (.lastore, 1))
theorem zf_zfS_19 (env : List (Nat × Nat)) : zI9 5 zY_5 zfS env (224, 0, 0, 0, 0) 225 := zi_aload_n (by decide +kernel : decode zY_5.2.1 224 = .ok (.aload_n 0, 1)) rfl
theorem zf_zfS_20 (env : List (Nat × Nat)) : zI9 5 zY_5 zfS env (225, 1, 17, 1, 2) 228 := zi_getf (i := 13) (N := 25) (C := "TransportPairModel$Seals") (ref := "TransportPairModel$Seals") (T := zF_17) (by decide +kernel : decode zY_5.2.1 225 = .ok (.getfield 13, 3)) rfl zuw_17 (by decide) (zw_T zwd_15) rfl
theorem zf_zfS_21 (env : List (Nat × Nat)) : zI9 5 zY_5 zfS env (228, 63, 2, 0, 0) 229 := zi_iload_n (by decide +kernel : decode zY_5.2.1 228 = .ok (.iload_n 2, 1)) rfl
theorem zf_zfS_22 (env : List (Nat × Nat)) : zI9 5 zY_5 zfS env (229, 0, 0, 0, 0) 230 := zi_aload_n (by decide +kernel : decode zY_5.2.1 229 = .ok (.aload_n 0, 1)) rfl
theorem zf_zfS_23 (env : List (Nat × Nat)) : zI9 5 zY_5 zfS env (230, 63, 1, 0, 0) 231 := zi_iload_n (by decide +kernel : decode zY_5.2.1 230 = .ok (.iload_n 1, 1)) rfl
theorem zf_zfS_24 (env : List (Nat × Nat)) : zI9 5 zY_5 zfS env (231, 2, 3, 0, 0) 232 := zi_iconst (by decide +kernel : decode zY_5.2.1 231 = .ok (.iconst 3, 1)) (by decide +kernel)
theorem zf_zfS_25 (env : List (Nat × Nat)) : zI9 5 zY_5 zfS env (232, 72, 1, 0, 0) 232 := zi_forget1
theorem zf_zfS_26 (env : List (Nat × Nat)) : zIok zX (zYf 5).1.cls (zYf 5).1.name (zYf 5).2.1 (zYf 5).2.2.1 (zW 5) zcl zft (zGv env) zfS (232, 76, 3, 198, 19) 235 := zi_sum (q := zs3) rfl zsok_3 (zr_V (i := 84) (n := 2) (q := ("TransportPairModel$Seals", zF_17, 25)) zX_ok rfl (zgood_3) (by decide +kernel) (zw_T zwd_4) (zw_T zwd_940) (zw_T zwd_941) rfl (zw_T (zt_sel (y := ⟨"TransportPairModel$Seals","rootOf","(II)J"⟩) (n := 25) 98 (by decide +kernel))) ⟨by decide +kernel, by decide +kernel, by decide +kernel⟩ rfl (by decide +kernel : decode (zYf 5).2.1 232 = .ok (.invokevirtual 84, 3)))
theorem zf_zfS_27 (env : List (Nat × Nat)) : zI9 5 zY_5 zfS env (235, 18, 0, 0, 0) 236 := zi_last (by decide +kernel : decode zY_5.2.1 235 = .ok (.lastore, 1))
theorem zf_zfS_28 (env : List (Nat × Nat)) : zI9 5 zY_5 zfS env (236, 35, 2, 1, 0) 239 := zi_iinc (by decide +kernel : decode zY_5.2.1 236 = .ok (.iinc 2 1, 3)) (by decide +kernel) (by decide)
theorem zf_zfS_29 (env : List (Nat × Nat)) : zI9 5 zY_5 zfS env (239, 7, 31, 0, 0) 242 := zi_goto (off := (-44)) (t := 195) (by decide +kernel : decode zY_5.2.1 239 = .ok (.goto (-44), 3)) (by decide) (by decide +kernel)
theorem zf_zfS_30 (env : List (Nat × Nat)) : zI9 5 zY_5 zfS env (242, 99, 0, 0, 0) 195 := zi_none
theorem zf_zfS_31 (env : List (Nat × Nat)) : zI9 5 zY_5 zfS env (195, 78, 0, 0, 0) 195 := zi_stop
set_option maxRecDepth 100000 in
theorem zc_zfS (env : List (Nat × Nat)) : zcode zX (z_QF zEX zcl zft) (z_zm zEX zX zWL zcl zft zYf) zYf zW zET zcl zft (zGv env) 5 zfS zfS.1 := ⟨Or.inl ⟨195, zf_zfS_0 env, zpc_c⟩,
  Or.inl ⟨196, zf_zfS_1 env, zpc_c⟩,
  Or.inl ⟨198, zf_zfS_2 env, zpc_c⟩,
  Or.inl ⟨201, zf_zfS_3 env, zpc_c⟩,
  Or.inl ⟨202, zf_zfS_4 env, zpc_c⟩,
  Or.inr (Or.inr (Or.inl ⟨zf_zfS_5 env, zpc_c⟩)),
  Or.inl ⟨206, zf_zfS_6 env, zpc_c⟩,
  Or.inl ⟨207, zf_zfS_7 env, zpc_c⟩,
  Or.inl ⟨209, zf_zfS_8 env, zpc_c⟩,
  Or.inl ⟨212, zf_zfS_9 env, zpc_c⟩,
  Or.inl ⟨213, zf_zfS_10 env, zpc_c⟩,
  Or.inl ⟨216, zf_zfS_11 env, zpc_c⟩,
  Or.inl ⟨217, zf_zfS_12 env, zpc_c⟩,
  Or.inl ⟨218, zf_zfS_13 env, zpc_c⟩,
  Or.inl ⟨219, zf_zfS_14 env, zpc_c⟩,
  Or.inl ⟨220, zf_zfS_15 env, zpc_c⟩,
  Or.inl ⟨220, zf_zfS_16 env, zpc_c⟩,
  Or.inl ⟨223, zf_zfS_17 env, zpc_c⟩,
  Or.inl ⟨224, zf_zfS_18 env, zpc_c⟩,
  Or.inl ⟨225, zf_zfS_19 env, zpc_c⟩,
  Or.inl ⟨228, zf_zfS_20 env, zpc_c⟩,
  Or.inl ⟨229, zf_zfS_21 env, zpc_c⟩,
  Or.inl ⟨230, zf_zfS_22 env, zpc_c⟩,
  Or.inl ⟨231, zf_zfS_23 env, zpc_c⟩,
  Or.inl ⟨232, zf_zfS_24 env, zpc_c⟩,
  Or.inl ⟨232, zf_zfS_25 env, zpc_c⟩,
  Or.inl ⟨235, zf_zfS_26 env, zpc_c⟩,
  Or.inl ⟨236, zf_zfS_27 env, zpc_c⟩,
  Or.inl ⟨239, zf_zfS_28 env, zpc_c⟩,
  Or.inl ⟨242, zf_zfS_29 env, zpc_c⟩,
  Or.inl ⟨195, zf_zfS_30 env, zpc_c⟩,
  Or.inl ⟨195, zf_zfS_31 env, zpc_n⟩, trivial⟩
theorem zf_zfI_0 (env : List (Nat × Nat)) : zI9 6 zY_6 zfI env (0, 99, 0, 0, 0) 481 := zi_none
theorem zf_zfI_1 (env : List (Nat × Nat)) : zI9 6 zY_6 zfI env (481, 63, 1, 0, 0) 482 := zi_iload_n (by decide +kernel : decode zY_6.2.1 481 = .ok (.iload_n 1, 1)) rfl
theorem zf_zfI_2 (env : List (Nat × Nat)) : zI9 6 zY_6 zfI env (482, 2, 512, 0, 0) 485 := zi_sipush (by decide +kernel : decode zY_6.2.1 482 = .ok (.sipush 512, 3)) (by decide +kernel)
theorem zf_zfI_3 (env : List (Nat × Nat)) : zI9 6 zY_6 zfI env (485, 28, 36, 0, 0) 488 := zi_icmp_ge (off := 55) (t := 540) (by decide +kernel : decode zY_6.2.1 485 = .ok (.if_icmp .ge 55, 3)) (by decide) (by decide +kernel)
theorem zf_zfI_4 (env : List (Nat × Nat)) : zI9 6 zY_6 zfI env (488, 0, 0, 0, 0) 489 := zi_aload_n (by decide +kernel : decode zY_6.2.1 488 = .ok (.aload_n 0, 1)) rfl
theorem zf_zfI_5 (env : List (Nat × Nat)) : zI9 6 zY_6 zfI env (489, 1, 19, 28, 2) 492 := zi_getf (i := 98) (N := 56) (C := "TransportPairModel$Streams") (ref := "TransportPairModel$Streams") (T := zF_19) (by decide +kernel : decode zY_6.2.1 489 = .ok (.getfield 98, 3)) rfl zuw_19 (by decide) (zw_T zwd_65) rfl
theorem zf_zfI_6 (env : List (Nat × Nat)) : zI9 6 zY_6 zfI env (492, 63, 1, 0, 0) 493 := zi_iload_n (by decide +kernel : decode zY_6.2.1 492 = .ok (.iload_n 1, 1)) rfl
theorem zf_zfI_7 (env : List (Nat × Nat)) : zI9 6 zY_6 zfI env (493, 15, 18446744073709551615, 0, 0) 496 := zi_ldc2 (v := (-1)) (by decide +kernel : decode zY_6.2.1 493 = .ok (.ldc2_w 170, 3)) (by decide +kernel) (zw_T zwd_91)
theorem zf_zfI_8 (env : List (Nat × Nat)) : zI9 6 zY_6 zfI env (496, 18, 0, 0, 0) 497 := zi_last (by decide +kernel : decode zY_6.2.1 496 = .ok (.lastore, 1))
theorem zf_zfI_9 (env : List (Nat × Nat)) : zI9 6 zY_6 zfI env (497, 0, 0, 0, 0) 498 := zi_aload_n (by decide +kernel : decode zY_6.2.1 497 = .ok (.aload_n 0, 1)) rfl
theorem zf_zfI_10 (env : List (Nat × Nat)) : zI9 6 zY_6 zfI env (498, 1, 19, 19, 2) 501 := zi_getf (i := 71) (N := 56) (C := "TransportPairModel$Streams") (ref := "TransportPairModel$Streams") (T := zF_19) (by decide +kernel : decode zY_6.2.1 498 = .ok (.getfield 71, 3)) rfl zuw_19 (by decide) (zw_T zwd_56) rfl
theorem zf_zfI_11 (env : List (Nat × Nat)) : zI9 6 zY_6 zfI env (501, 63, 1, 0, 0) 502 := zi_iload_n (by decide +kernel : decode zY_6.2.1 501 = .ok (.iload_n 1, 1)) rfl
theorem zf_zfI_12 (env : List (Nat × Nat)) : zI9 6 zY_6 zfI env (502, 15, 18446744073709551615, 0, 0) 505 := zi_ldc2 (v := (-1)) (by decide +kernel : decode zY_6.2.1 502 = .ok (.ldc2_w 170, 3)) (by decide +kernel) (zw_T zwd_91)
theorem zf_zfI_13 (env : List (Nat × Nat)) : zI9 6 zY_6 zfI env (505, 18, 0, 0, 0) 506 := zi_last (by decide +kernel : decode zY_6.2.1 505 = .ok (.lastore, 1))
theorem zf_zfI_14 (env : List (Nat × Nat)) : zI9 6 zY_6 zfI env (506, 0, 0, 0, 0) 507 := zi_aload_n (by decide +kernel : decode zY_6.2.1 506 = .ok (.aload_n 0, 1)) rfl
theorem zf_zfI_15 (env : List (Nat × Nat)) : zI9 6 zY_6 zfI env (507, 1, 19, 20, 2) 510 := zi_getf (i := 74) (N := 56) (C := "TransportPairModel$Streams") (ref := "TransportPairModel$Streams") (T := zF_19) (by decide +kernel : decode zY_6.2.1 507 = .ok (.getfield 74, 3)) rfl zuw_19 (by decide) (zw_T zwd_57) rfl
theorem zf_zfI_16 (env : List (Nat × Nat)) : zI9 6 zY_6 zfI env (510, 63, 1, 0, 0) 511 := zi_iload_n (by decide +kernel : decode zY_6.2.1 510 = .ok (.iload_n 1, 1)) rfl
theorem zf_zfI_17 (env : List (Nat × Nat)) : zI9 6 zY_6 zfI env (511, 2, 4294967295, 0, 0) 512 := zi_iconst (by decide +kernel : decode zY_6.2.1 511 = .ok (.iconst (-1), 1)) (by decide +kernel)
theorem zf_zfI_18 (env : List (Nat × Nat)) : zI9 6 zY_6 zfI env (512, 32, 0, 0, 0) 513 := zi_iast (by decide +kernel : decode zY_6.2.1 512 = .ok (.iastore, 1))
theorem zf_zfI_19 (env : List (Nat × Nat)) : zI9 6 zY_6 zfI env (513, 0, 0, 0, 0) 514 := zi_aload_n (by decide +kernel : decode zY_6.2.1 513 = .ok (.aload_n 0, 1)) rfl
theorem zf_zfI_20 (env : List (Nat × Nat)) : zI9 6 zY_6 zfI env (514, 1, 19, 21, 2) 517 := zi_getf (i := 77) (N := 56) (C := "TransportPairModel$Streams") (ref := "TransportPairModel$Streams") (T := zF_19) (by decide +kernel : decode zY_6.2.1 514 = .ok (.getfield 77, 3)) rfl zuw_19 (by decide) (zw_T zwd_58) rfl
theorem zf_zfI_21 (env : List (Nat × Nat)) : zI9 6 zY_6 zfI env (517, 63, 1, 0, 0) 518 := zi_iload_n (by decide +kernel : decode zY_6.2.1 517 = .ok (.iload_n 1, 1)) rfl
theorem zf_zfI_22 (env : List (Nat × Nat)) : zI9 6 zY_6 zfI env (518, 2, 4294967295, 0, 0) 519 := zi_iconst (by decide +kernel : decode zY_6.2.1 518 = .ok (.iconst (-1), 1)) (by decide +kernel)
theorem zf_zfI_23 (env : List (Nat × Nat)) : zI9 6 zY_6 zfI env (519, 32, 0, 0, 0) 520 := zi_iast (by decide +kernel : decode zY_6.2.1 519 = .ok (.iastore, 1))
theorem zf_zfI_24 (env : List (Nat × Nat)) : zI9 6 zY_6 zfI env (520, 0, 0, 0, 0) 521 := zi_aload_n (by decide +kernel : decode zY_6.2.1 520 = .ok (.aload_n 0, 1)) rfl
theorem zf_zfI_25 (env : List (Nat × Nat)) : zI9 6 zY_6 zfI env (521, 1, 19, 22, 2) 524 := zi_getf (i := 80) (N := 56) (C := "TransportPairModel$Streams") (ref := "TransportPairModel$Streams") (T := zF_19) (by decide +kernel : decode zY_6.2.1 521 = .ok (.getfield 80, 3)) rfl zuw_19 (by decide) (zw_T zwd_59) rfl
theorem zf_zfI_26 (env : List (Nat × Nat)) : zI9 6 zY_6 zfI env (524, 63, 1, 0, 0) 525 := zi_iload_n (by decide +kernel : decode zY_6.2.1 524 = .ok (.iload_n 1, 1)) rfl
theorem zf_zfI_27 (env : List (Nat × Nat)) : zI9 6 zY_6 zfI env (525, 2, 4294967295, 0, 0) 526 := zi_iconst (by decide +kernel : decode zY_6.2.1 525 = .ok (.iconst (-1), 1)) (by decide +kernel)
theorem zf_zfI_28 (env : List (Nat × Nat)) : zI9 6 zY_6 zfI env (526, 32, 0, 0, 0) 527 := zi_iast (by decide +kernel : decode zY_6.2.1 526 = .ok (.iastore, 1))
theorem zf_zfI_29 (env : List (Nat × Nat)) : zI9 6 zY_6 zfI env (527, 0, 0, 0, 0) 528 := zi_aload_n (by decide +kernel : decode zY_6.2.1 527 = .ok (.aload_n 0, 1)) rfl
theorem zf_zfI_30 (env : List (Nat × Nat)) : zI9 6 zY_6 zfI env (528, 1, 19, 39, 2) 531 := zi_getf (i := 131) (N := 56) (C := "TransportPairModel$Streams") (ref := "TransportPairModel$Streams") (T := zF_19) (by decide +kernel : decode zY_6.2.1 528 = .ok (.getfield 131, 3)) rfl zuw_19 (by decide) (zw_T zwd_76) rfl
theorem zf_zfI_31 (env : List (Nat × Nat)) : zI9 6 zY_6 zfI env (531, 63, 1, 0, 0) 532 := zi_iload_n (by decide +kernel : decode zY_6.2.1 531 = .ok (.iload_n 1, 1)) rfl
theorem zf_zfI_32 (env : List (Nat × Nat)) : zI9 6 zY_6 zfI env (532, 2, 4294967295, 0, 0) 533 := zi_iconst (by decide +kernel : decode zY_6.2.1 532 = .ok (.iconst (-1), 1)) (by decide +kernel)
theorem zf_zfI_33 (env : List (Nat × Nat)) : zI9 6 zY_6 zfI env (533, 32, 0, 0, 0) 534 := zi_iast (by decide +kernel : decode zY_6.2.1 533 = .ok (.iastore, 1))
theorem zf_zfI_34 (env : List (Nat × Nat)) : zI9 6 zY_6 zfI env (534, 35, 1, 1, 0) 537 := zi_iinc (by decide +kernel : decode zY_6.2.1 534 = .ok (.iinc 1 1, 3)) (by decide +kernel) (by decide)
theorem zf_zfI_35 (env : List (Nat × Nat)) : zI9 6 zY_6 zfI env (537, 7, 37, 0, 0) 540 := zi_goto (off := (-56)) (t := 481) (by decide +kernel : decode zY_6.2.1 537 = .ok (.goto (-56), 3)) (by decide) (by decide +kernel)
theorem zf_zfI_36 (env : List (Nat × Nat)) : zI9 6 zY_6 zfI env (540, 99, 0, 0, 0) 481 := zi_none
theorem zf_zfI_37 (env : List (Nat × Nat)) : zI9 6 zY_6 zfI env (481, 78, 0, 0, 0) 481 := zi_stop
set_option maxRecDepth 100000 in
theorem zc_zfI (env : List (Nat × Nat)) : zcode zX (z_QF zEX zcl zft) (z_zm zEX zX zWL zcl zft zYf) zYf zW zET zcl zft (zGv env) 6 zfI zfI.1 := ⟨Or.inl ⟨481, zf_zfI_0 env, zpc_c⟩,
  Or.inl ⟨482, zf_zfI_1 env, zpc_c⟩,
  Or.inl ⟨485, zf_zfI_2 env, zpc_c⟩,
  Or.inl ⟨488, zf_zfI_3 env, zpc_c⟩,
  Or.inl ⟨489, zf_zfI_4 env, zpc_c⟩,
  Or.inl ⟨492, zf_zfI_5 env, zpc_c⟩,
  Or.inl ⟨493, zf_zfI_6 env, zpc_c⟩,
  Or.inl ⟨496, zf_zfI_7 env, zpc_c⟩,
  Or.inl ⟨497, zf_zfI_8 env, zpc_c⟩,
  Or.inl ⟨498, zf_zfI_9 env, zpc_c⟩,
  Or.inl ⟨501, zf_zfI_10 env, zpc_c⟩,
  Or.inl ⟨502, zf_zfI_11 env, zpc_c⟩,
  Or.inl ⟨505, zf_zfI_12 env, zpc_c⟩,
  Or.inl ⟨506, zf_zfI_13 env, zpc_c⟩,
  Or.inl ⟨507, zf_zfI_14 env, zpc_c⟩,
  Or.inl ⟨510, zf_zfI_15 env, zpc_c⟩,
  Or.inl ⟨511, zf_zfI_16 env, zpc_c⟩,
  Or.inl ⟨512, zf_zfI_17 env, zpc_c⟩,
  Or.inl ⟨513, zf_zfI_18 env, zpc_c⟩,
  Or.inl ⟨514, zf_zfI_19 env, zpc_c⟩,
  Or.inl ⟨517, zf_zfI_20 env, zpc_c⟩,
  Or.inl ⟨518, zf_zfI_21 env, zpc_c⟩,
  Or.inl ⟨519, zf_zfI_22 env, zpc_c⟩,
  Or.inl ⟨520, zf_zfI_23 env, zpc_c⟩,
  Or.inl ⟨521, zf_zfI_24 env, zpc_c⟩,
  Or.inl ⟨524, zf_zfI_25 env, zpc_c⟩,
  Or.inl ⟨525, zf_zfI_26 env, zpc_c⟩,
  Or.inl ⟨526, zf_zfI_27 env, zpc_c⟩,
  Or.inl ⟨527, zf_zfI_28 env, zpc_c⟩,
  Or.inl ⟨528, zf_zfI_29 env, zpc_c⟩,
  Or.inl ⟨531, zf_zfI_30 env, zpc_c⟩,
  Or.inl ⟨532, zf_zfI_31 env, zpc_c⟩,
  Or.inl ⟨533, zf_zfI_32 env, zpc_c⟩,
  Or.inl ⟨534, zf_zfI_33 env, zpc_c⟩,
  Or.inl ⟨537, zf_zfI_34 env, zpc_c⟩,
  Or.inl ⟨540, zf_zfI_35 env, zpc_c⟩,
  Or.inl ⟨481, zf_zfI_36 env, zpc_c⟩,
  Or.inl ⟨481, zf_zfI_37 env, zpc_n⟩, trivial⟩
