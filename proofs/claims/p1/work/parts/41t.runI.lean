/-! THE RUNS: THE LOOP OVER THE STREAMS -/
def zl9 (j : Nat) : zL := [(1, (0, j + 1)), (0, (6, 422))]
def zrun1 (j : Nat) : Bool := z_eqR (zx zmI (zGv []) 60 12 zfI (z_drop zfI.1 1) ([(0, (6, 422)), (1, (0, j))], [], (zhI, ztI, 51, 597532))) (5, (481, 0), (zl9 j, [], (zhI, ztI, 51, 597532)))
set_option maxRecDepth 1000000 in
theorem zrI0 : (List.range' 0 16).all zrun1 = true := by decide +kernel
set_option maxRecDepth 1000000 in
theorem zrI1 : (List.range' 16 16).all zrun1 = true := by decide +kernel
set_option maxRecDepth 1000000 in
theorem zrI2 : (List.range' 32 16).all zrun1 = true := by decide +kernel
set_option maxRecDepth 1000000 in
theorem zrI3 : (List.range' 48 16).all zrun1 = true := by decide +kernel
set_option maxRecDepth 1000000 in
theorem zrI4 : (List.range' 64 16).all zrun1 = true := by decide +kernel
set_option maxRecDepth 1000000 in
theorem zrI5 : (List.range' 80 16).all zrun1 = true := by decide +kernel
set_option maxRecDepth 1000000 in
theorem zrI6 : (List.range' 96 16).all zrun1 = true := by decide +kernel
set_option maxRecDepth 1000000 in
theorem zrI7 : (List.range' 112 16).all zrun1 = true := by decide +kernel
set_option maxRecDepth 1000000 in
theorem zrI8 : (List.range' 128 16).all zrun1 = true := by decide +kernel
set_option maxRecDepth 1000000 in
theorem zrI9 : (List.range' 144 16).all zrun1 = true := by decide +kernel
set_option maxRecDepth 1000000 in
theorem zrI10 : (List.range' 160 16).all zrun1 = true := by decide +kernel
set_option maxRecDepth 1000000 in
theorem zrI11 : (List.range' 176 16).all zrun1 = true := by decide +kernel
set_option maxRecDepth 1000000 in
theorem zrI12 : (List.range' 192 16).all zrun1 = true := by decide +kernel
set_option maxRecDepth 1000000 in
theorem zrI13 : (List.range' 208 16).all zrun1 = true := by decide +kernel
set_option maxRecDepth 1000000 in
theorem zrI14 : (List.range' 224 16).all zrun1 = true := by decide +kernel
set_option maxRecDepth 1000000 in
theorem zrI15 : (List.range' 240 16).all zrun1 = true := by decide +kernel
set_option maxRecDepth 1000000 in
theorem zrI16 : (List.range' 256 16).all zrun1 = true := by decide +kernel
set_option maxRecDepth 1000000 in
theorem zrI17 : (List.range' 272 16).all zrun1 = true := by decide +kernel
set_option maxRecDepth 1000000 in
theorem zrI18 : (List.range' 288 16).all zrun1 = true := by decide +kernel
set_option maxRecDepth 1000000 in
theorem zrI19 : (List.range' 304 16).all zrun1 = true := by decide +kernel
set_option maxRecDepth 1000000 in
theorem zrI20 : (List.range' 320 16).all zrun1 = true := by decide +kernel
set_option maxRecDepth 1000000 in
theorem zrI21 : (List.range' 336 16).all zrun1 = true := by decide +kernel
set_option maxRecDepth 1000000 in
theorem zrI22 : (List.range' 352 16).all zrun1 = true := by decide +kernel
set_option maxRecDepth 1000000 in
theorem zrI23 : (List.range' 368 16).all zrun1 = true := by decide +kernel
set_option maxRecDepth 1000000 in
theorem zrI24 : (List.range' 384 16).all zrun1 = true := by decide +kernel
set_option maxRecDepth 1000000 in
theorem zrI25 : (List.range' 400 16).all zrun1 = true := by decide +kernel
set_option maxRecDepth 1000000 in
theorem zrI26 : (List.range' 416 16).all zrun1 = true := by decide +kernel
set_option maxRecDepth 1000000 in
theorem zrI27 : (List.range' 432 16).all zrun1 = true := by decide +kernel
set_option maxRecDepth 1000000 in
theorem zrI28 : (List.range' 448 16).all zrun1 = true := by decide +kernel
set_option maxRecDepth 1000000 in
theorem zrI29 : (List.range' 464 16).all zrun1 = true := by decide +kernel
set_option maxRecDepth 1000000 in
theorem zrI30 : (List.range' 480 16).all zrun1 = true := by decide +kernel
set_option maxRecDepth 1000000 in
theorem zrI31 : (List.range' 496 16).all zrun1 = true := by decide +kernel
