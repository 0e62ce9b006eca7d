/-! THE RUNS: SUMMARIES -/
set_option maxRecDepth 1000000 in
theorem zrS0 : z_eqR (zx zmA1 (zGv []) 2392 8 zm_1 zm_1.1 (z_args 0 [(6, 398), (4, 0), (2, 0), (0, 2)], [], (zhS, ztS, 0, 0))) (1, (9, 9223372039002259457), [], [], (zhS, ztS, 0, 0)) = true := by decide +kernel
set_option maxRecDepth 1000000 in
theorem zrS1 : z_eqR (zx zmA1 (zGv []) 3353 8 zm_1 zm_1.1 (z_args 0 [(6, 398), (4, 0), (2, 0), (0, 3)], [], (zhS, ztS, 0, 0))) (1, (9, 9223372039002259457), [], [], (zhS, ztS, 0, 0)) = true := by decide +kernel
set_option maxRecDepth 1000000 in
theorem zrS2 : z_eqR (zx zmA2 (zGv []) 636 10 zm_2 zm_2.1 (z_args 0 [(6, 398), (2, 0), (0, 2)], [], (zhS, ztS, 0, 0))) (1, (4, 0), [], [], (zhS, ztS, 0, 0)) = true := by decide +kernel
set_option maxRecDepth 1000000 in
theorem zrS3 : z_eqR (zx zmA2 (zGv []) 636 10 zm_3 zm_3.1 (z_args 0 [(6, 398), (2, 0), (0, 3)], [], (zhS, ztS, 0, 0))) (1, (4, 0), [], [], (zhS, ztS, 0, 0)) = true := by decide +kernel
def zprs : List Nat := [1, 2, 3, 5, 7, 11, 13, 17, 19, 23, 29, 31, 37, 41, 43, 47, 53, 59, 61, 67, 71, 73, 79, 83, 89, 97, 101, 103, 107, 109, 113, 127, 131, 137, 139, 149, 151, 157, 163, 167, 173, 179, 181, 191, 193, 197, 199, 211, 223, 227, 229, 233, 239, 241, 251, 257, 263, 269, 271, 277, 281, 283, 293, 307, 311]
def zpr (j : Nat) : Nat := zprs.getD j 0
def zl8 (j : Nat) : zL := [(2, (0, j + 1)), (1, (0, zpr (j + 1))), (0, (6, 398))]
def zrun (j : Nat) : Bool := z_eqR (zx zmS (zGv []) 300 12 zfS (z_drop zfS.1 1) ([(0, (6, 398)), (1, (0, zpr j)), (2, (0, j))], [], (zhS, ztS, 23, 8176))) (5, (195, 0), (zl8 j, [], (zhS, ztS, 23, 8176)))
set_option maxRecDepth 1000000 in
theorem zrQ0 : (List.range' 0 8).all zrun = true := by decide +kernel
set_option maxRecDepth 1000000 in
theorem zrQ1 : (List.range' 8 8).all zrun = true := by decide +kernel
set_option maxRecDepth 1000000 in
theorem zrQ2 : (List.range' 16 8).all zrun = true := by decide +kernel
set_option maxRecDepth 1000000 in
theorem zrQ3 : (List.range' 24 8).all zrun = true := by decide +kernel
set_option maxRecDepth 1000000 in
theorem zrQ4 : (List.range' 32 8).all zrun = true := by decide +kernel
set_option maxRecDepth 1000000 in
theorem zrQ5 : (List.range' 40 8).all zrun = true := by decide +kernel
set_option maxRecDepth 1000000 in
theorem zrQ6 : (List.range' 48 8).all zrun = true := by decide +kernel
set_option maxRecDepth 1000000 in
theorem zrQ7 : (List.range' 56 8).all zrun = true := by decide +kernel
