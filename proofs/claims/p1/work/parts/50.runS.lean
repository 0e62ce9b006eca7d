/-! THE RUNS: SUMMARIES -/
set_option maxRecDepth 1000000 in
theorem zrS0 : z_eqR (zx zmA1 (zGv []) 2392 8 zm_1 zm_1.1 (z_args 0 [(6, 398), (4, 0), (2, 0), (0, 2)], [], (zhS, ztS, 0, 0))) (1, (9, 9223372039002259457), [], [], (zhS, ztS, 0, 0)) = true := by decide +kernel
set_option maxRecDepth 1000000 in
theorem zrS1 : z_eqR (zx zmA1 (zGv []) 3353 8 zm_1 zm_1.1 (z_args 0 [(6, 398), (4, 0), (2, 0), (0, 3)], [], (zhS, ztS, 0, 0))) (1, (9, 9223372039002259457), [], [], (zhS, ztS, 0, 0)) = true := by decide +kernel
set_option maxRecDepth 1000000 in
theorem zrS2 : z_eqR (zx zmA2 (zGv []) 636 10 zm_2 zm_2.1 (z_args 0 [(6, 398), (2, 0), (0, 2)], [], (zhS, ztS, 0, 0))) (1, (4, 0), [], [], (zhS, ztS, 0, 0)) = true := by decide +kernel
set_option maxRecDepth 1000000 in
theorem zrS3 : z_eqR (zx zmA2 (zGv []) 636 10 zm_3 zm_3.1 (z_args 0 [(6, 398), (2, 0), (0, 3)], [], (zhS, ztS, 0, 0))) (1, (4, 0), [], [], (zhS, ztS, 0, 0)) = true := by decide +kernel
