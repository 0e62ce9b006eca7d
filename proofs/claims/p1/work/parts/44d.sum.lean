/-! ROOTS -/
set_option maxRecDepth 100000 in
theorem zfa_A2 : zFall [] 0 [zm_0, zm_1, zm_2, zm_3] := ⟨⟨zc_zm_0 _, zpc_c⟩, ⟨zc_zm_1 _, zpc_c⟩, ⟨zc_zm_2 _, zpc_c⟩, ⟨zc_zm_3 _, zpc_c⟩, trivial⟩
theorem zsok_2 : zSok zX zWL zcl zft zYf zs2 := zsum (mt := zmA2) (me := zm_2) zfa_A2 rfl (by decide +kernel) zrS2
theorem zsok_3 : zSok zX zWL zcl zft zYf zs3 := zsum (mt := zmA2) (me := zm_3) zfa_A2 rfl (by decide +kernel) zrS3
