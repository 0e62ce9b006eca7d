/-! THE RUNS OF THE LOOPS OVER TIME -/
set_option maxRecDepth 1000000 in
theorem zrT6 : z_eqR (zx zmT (zGv z_envL) 547 20 zfT (z_drop zfT.1 1) (z_hole (1, 7) (z_L 0) zhT ztK)) (5, (41, 0), ([(2, (1, 8)), (3, (0, 0)), (0, (6, 0)), (1, (1, 1))], [], (z_mapH (z_ren (1, 8)) zhT, ztK, 0, 0))) = true := by decide +kernel
set_option maxRecDepth 1000000 in
theorem zrT7 : z_eqR (zx zmM (zGv z_envL) 909 20 zfM (z_drop zfM.1 1) (z_hole (1, 7) (z_L 395) zhM ztK)) (5, (53, 0), ([(2, (1, 8)), (0, (6, 395)), (1, (1, 1))], [], (z_mapH (z_ren (1, 8)) zhM, ztK, 0, 0))) = true := by decide +kernel
