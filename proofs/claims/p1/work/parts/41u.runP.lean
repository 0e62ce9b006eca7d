/-! THE RUN OF THE CONSTRUCTORS -/
set_option maxRecDepth 1000000 in
theorem zrP : z_eqR (zx zmP (zGv []) 5611 40 zlp zlp.1 (z_args 0 [(8, 0)], [], ([], [], 0, 0))) (5, (23, 0), (zlK, [], zSK)) = true := by decide +kernel
