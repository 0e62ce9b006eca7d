/-! EXCEPTION ROWS (by program) -/
theorem zeo_zm_10 : zEok (zYf 10).1.cls (zW 10) zEX zm_10 zm_10.2.1 (zET 10) := trivial
theorem zeo_zm_11 : zEok (zYf 11).1.cls (zW 11) zEX zm_11 zm_11.2.1 (zET 11) := trivial
theorem zeo_zm_12 : zEok (zYf 12).1.cls (zW 12) zEX zm_12 zm_12.2.1 (zET 12) := trivial
theorem zeo_zm_14 : zEok (zYf 14).1.cls (zW 14) zEX zm_14 zm_14.2.1 (zET 14) := trivial
theorem zeo_zm_15 : zEok (zYf 15).1.cls (zW 15) zEX zm_15 zm_15.2.1 (zET 15) := trivial
theorem zeo_zm_16 : zEok (zYf 16).1.cls (zW 16) zEX zm_16 zm_16.2.1 (zET 16) := trivial
theorem zeo_zm_17 : zEok (zYf 17).1.cls (zW 17) zEX zm_17 zm_17.2.1 (zET 17) := trivial
theorem zeo_zm_18 : zEok (zYf 18).1.cls (zW 18) zEX zm_18 zm_18.2.1 (zET 18) := trivial
theorem zeo_zm_19 : zEok (zYf 19).1.cls (zW 19) zEX zm_19 zm_19.2.1 (zET 19) := trivial
theorem zeo_zm_21 : zEok (zYf 21).1.cls (zW 21) zEX zm_21 zm_21.2.1 (zET 21) := trivial
theorem zeo_zm_22 : zEok (zYf 22).1.cls (zW 22) zEX zm_22 zm_22.2.1 (zET 22) := trivial
theorem zeo_zm_23 : zEok (zYf 23).1.cls (zW 23) zEX zm_23 zm_23.2.1 (zET 23) := trivial
theorem zeo_zm_24 : zEok (zYf 24).1.cls (zW 24) zEX zm_24 zm_24.2.1 (zET 24) := trivial
theorem zeo_zm_25 : zEok (zYf 25).1.cls (zW 25) zEX zm_25 zm_25.2.1 (zET 25) := trivial
theorem zeo_zm_26 : zEok (zYf 26).1.cls (zW 26) zEX zm_26 zm_26.2.1 (zET 26) := trivial
theorem zeo_zm_27 : zEok (zYf 27).1.cls (zW 27) zEX zm_27 zm_27.2.1 (zET 27) := trivial
theorem zeo_zm_28 : zEok (zYf 28).1.cls (zW 28) zEX zm_28 zm_28.2.1 (zET 28) := trivial
theorem zeo_zm_29 : zEok (zYf 29).1.cls (zW 29) zEX zm_29 zm_29.2.1 (zET 29) := trivial
theorem zeo_zm_30 : zEok (zYf 30).1.cls (zW 30) zEX zm_30 zm_30.2.1 (zET 30) := trivial
theorem zeo_zm_31 : zEok (zYf 31).1.cls (zW 31) zEX zm_31 zm_31.2.1 (zET 31) := trivial
theorem zeo_zm_32 : zEok (zYf 32).1.cls (zW 32) zEX zm_32 zm_32.2.1 (zET 32) := trivial
theorem zeo_zm_33 : zEok (zYf 33).1.cls (zW 33) zEX zm_33 zm_33.2.1 (zET 33) := trivial
theorem zeo_zm_34 : zEok (zYf 34).1.cls (zW 34) zEX zm_34 zm_34.2.1 (zET 34) := trivial
theorem zeo_zm_39 : zEok (zYf 39).1.cls (zW 39) zEX zm_39 zm_39.2.1 (zET 39) := trivial
theorem zeo_zm_40 : zEok (zYf 40).1.cls (zW 40) zEX zm_40 zm_40.2.1 (zET 40) := trivial
theorem zeo_zm_142 : zEok (zYf 142).1.cls (zW 142) zEX zm_142 zm_142.2.1 (zET 142) := ⟨⟨rfl, rfl, by decide, by decide, zw_T (zt_in (zq_4 _ (List.mem_of_getElem? (i := 191) (by decide +kernel))) rfl), fun y t h => by cases h; rfl⟩, trivial⟩
theorem zeo_zm_143 : zEok (zYf 143).1.cls (zW 143) zEX zm_143 zm_143.2.1 (zET 143) := ⟨⟨rfl, rfl, by decide, by decide, zw_T (zt_in (zq_5 _ (List.mem_of_getElem? (i := 48) (by decide +kernel))) rfl), fun y t h => by cases h; rfl⟩, trivial⟩
theorem zeo_zm_144 : zEok (zYf 144).1.cls (zW 144) zEX zm_144 zm_144.2.1 (zET 144) := ⟨⟨rfl, rfl, by decide, by decide, zw_T (zt_in (zq_5 _ (List.mem_of_getElem? (i := 48) (by decide +kernel))) rfl), fun y t h => by cases h; rfl⟩, ⟨rfl, rfl, by decide, by decide, zw_T (zt_in (zq_4 _ (List.mem_of_getElem? (i := 191) (by decide +kernel))) rfl), fun y t h => by cases h; rfl⟩, trivial⟩
theorem zeo_zm_145 : zEok (zYf 145).1.cls (zW 145) zEX zm_145 zm_145.2.1 (zET 145) := ⟨⟨rfl, rfl, by decide, by decide, zw_T (zt_in (zq_5 _ (List.mem_of_getElem? (i := 48) (by decide +kernel))) rfl), fun y t h => by cases h; rfl⟩, ⟨rfl, rfl, by decide, by decide, zw_T (zt_in (zq_4 _ (List.mem_of_getElem? (i := 191) (by decide +kernel))) rfl), fun y t h => by cases h; rfl⟩, trivial⟩
theorem zeo_zm_146 : zEok (zYf 146).1.cls (zW 146) zEX zm_146 zm_146.2.1 (zET 146) := ⟨⟨rfl, rfl, by decide, by decide, zw_T (zt_in (zq_5 _ (List.mem_of_getElem? (i := 48) (by decide +kernel))) rfl), fun y t h => by cases h; rfl⟩, ⟨rfl, rfl, by decide, by decide, zw_T (zt_in (zq_4 _ (List.mem_of_getElem? (i := 191) (by decide +kernel))) rfl), fun y t h => by cases h; rfl⟩, trivial⟩
theorem zeo_zm_147 : zEok (zYf 147).1.cls (zW 147) zEX zm_147 zm_147.2.1 (zET 147) := ⟨⟨rfl, rfl, by decide, by decide, zw_T (zt_in (zq_4 _ (List.mem_of_getElem? (i := 191) (by decide +kernel))) rfl), fun y t h => by cases h; rfl⟩, trivial⟩
theorem zeo_zm_148 : zEok (zYf 148).1.cls (zW 148) zEX zm_148 zm_148.2.1 (zET 148) := ⟨⟨rfl, rfl, by decide, by decide, zw_T (zt_in (zq_5 _ (List.mem_of_getElem? (i := 48) (by decide +kernel))) rfl), fun y t h => by cases h; rfl⟩, trivial⟩
theorem zeo_zm_149 : zEok (zYf 149).1.cls (zW 149) zEX zm_149 zm_149.2.1 (zET 149) := ⟨⟨rfl, rfl, by decide, by decide, zw_T (zt_in (zq_5 _ (List.mem_of_getElem? (i := 48) (by decide +kernel))) rfl), fun y t h => by cases h; rfl⟩, trivial⟩
theorem zeo_zm_150 : zEok (zYf 150).1.cls (zW 150) zEX zm_150 zm_150.2.1 (zET 150) := ⟨⟨rfl, rfl, by decide, by decide, zw_T (zt_in (zq_5 _ (List.mem_of_getElem? (i := 48) (by decide +kernel))) rfl), fun y t h => by cases h; rfl⟩, trivial⟩
theorem zeo_zm_151 : zEok (zYf 151).1.cls (zW 151) zEX zm_151 zm_151.2.1 (zET 151) := ⟨⟨rfl, rfl, by decide, by decide, zw_T (zt_in (zq_5 _ (List.mem_of_getElem? (i := 48) (by decide +kernel))) rfl), fun y t h => by cases h; rfl⟩, trivial⟩
theorem zeo_zm_152 : zEok (zYf 152).1.cls (zW 152) zEX zm_152 zm_152.2.1 (zET 152) := ⟨⟨rfl, rfl, by decide, by decide, zw_T (zt_in (zq_5 _ (List.mem_of_getElem? (i := 48) (by decide +kernel))) rfl), fun y t h => by cases h; rfl⟩, trivial⟩
theorem zeo_zm_153 : zEok (zYf 153).1.cls (zW 153) zEX zm_153 zm_153.2.1 (zET 153) := ⟨⟨rfl, rfl, by decide, by decide, zw_T (zt_in (zq_5 _ (List.mem_of_getElem? (i := 48) (by decide +kernel))) rfl), fun y t h => by cases h; rfl⟩, trivial⟩
theorem zeo_zm_154 : zEok (zYf 154).1.cls (zW 154) zEX zm_154 zm_154.2.1 (zET 154) := ⟨⟨rfl, rfl, by decide, by decide, zw_T (zt_in (zq_6 _ (List.mem_of_getElem? (i := 154) (by decide +kernel))) rfl), fun y t h => by cases h; rfl⟩, trivial⟩
theorem zeo_zm_155 : zEok (zYf 155).1.cls (zW 155) zEX zm_155 zm_155.2.1 (zET 155) := ⟨⟨rfl, rfl, by decide, by decide, zw_T (zt_in (zq_5 _ (List.mem_of_getElem? (i := 48) (by decide +kernel))) rfl), fun y t h => by cases h; rfl⟩, trivial⟩
theorem zeo_zm_156 : zEok (zYf 156).1.cls (zW 156) zEX zm_156 zm_156.2.1 (zET 156) := ⟨⟨rfl, rfl, by decide, by decide, zw_T (zt_in (zq_5 _ (List.mem_of_getElem? (i := 48) (by decide +kernel))) rfl), fun y t h => by cases h; rfl⟩, ⟨rfl, rfl, by decide, by decide, zw_T (zt_in (zq_4 _ (List.mem_of_getElem? (i := 191) (by decide +kernel))) rfl), fun y t h => by cases h; rfl⟩, trivial⟩
theorem zeo_zm_157 : zEok (zYf 157).1.cls (zW 157) zEX zm_157 zm_157.2.1 (zET 157) := ⟨⟨rfl, rfl, by decide, by decide, zw_T (zt_in (zq_5 _ (List.mem_of_getElem? (i := 48) (by decide +kernel))) rfl), fun y t h => by cases h; rfl⟩, ⟨rfl, rfl, by decide, by decide, zw_T (zt_in (zq_6 _ (List.mem_of_getElem? (i := 154) (by decide +kernel))) rfl), fun y t h => by cases h; rfl⟩, trivial⟩
theorem zeo_zm_158 : zEok (zYf 158).1.cls (zW 158) zEX zm_158 zm_158.2.1 (zET 158) := ⟨⟨rfl, rfl, by decide, by decide, zw_T (zt_in (zq_5 _ (List.mem_of_getElem? (i := 48) (by decide +kernel))) rfl), fun y t h => by cases h; rfl⟩, ⟨rfl, rfl, by decide, by decide, zw_T (zt_in (zq_6 _ (List.mem_of_getElem? (i := 154) (by decide +kernel))) rfl), fun y t h => by cases h; rfl⟩, trivial⟩
theorem zeo_zm_159 : zEok (zYf 159).1.cls (zW 159) zEX zm_159 zm_159.2.1 (zET 159) := ⟨⟨rfl, rfl, by decide, by decide, zw_T (zt_in (zq_5 _ (List.mem_of_getElem? (i := 48) (by decide +kernel))) rfl), fun y t h => by cases h; rfl⟩, ⟨rfl, rfl, by decide, by decide, zw_T (zt_in (zq_6 _ (List.mem_of_getElem? (i := 154) (by decide +kernel))) rfl), fun y t h => by cases h; rfl⟩, trivial⟩
theorem zeo_zm_160 : zEok (zYf 160).1.cls (zW 160) zEX zm_160 zm_160.2.1 (zET 160) := ⟨⟨rfl, rfl, by decide, by decide, zw_T (zt_in (zq_5 _ (List.mem_of_getElem? (i := 48) (by decide +kernel))) rfl), fun y t h => by cases h; rfl⟩, ⟨rfl, rfl, by decide, by decide, zw_T (zt_in (zq_6 _ (List.mem_of_getElem? (i := 154) (by decide +kernel))) rfl), fun y t h => by cases h; rfl⟩, trivial⟩
theorem zeo_zm_161 : zEok (zYf 161).1.cls (zW 161) zEX zm_161 zm_161.2.1 (zET 161) := ⟨⟨rfl, rfl, by decide, by decide, zw_T (zt_in (zq_5 _ (List.mem_of_getElem? (i := 48) (by decide +kernel))) rfl), fun y t h => by cases h; rfl⟩, trivial⟩
theorem zeo_zm_162 : zEok (zYf 162).1.cls (zW 162) zEX zm_162 zm_162.2.1 (zET 162) := ⟨⟨rfl, rfl, by decide, by decide, zw_T (zt_in (zq_5 _ (List.mem_of_getElem? (i := 48) (by decide +kernel))) rfl), fun y t h => by cases h; rfl⟩, ⟨rfl, rfl, by decide, by decide, zw_T (zt_in (zq_4 _ (List.mem_of_getElem? (i := 191) (by decide +kernel))) rfl), fun y t h => by cases h; rfl⟩, trivial⟩
theorem zeo_zm_163 : zEok (zYf 163).1.cls (zW 163) zEX zm_163 zm_163.2.1 (zET 163) := ⟨⟨rfl, rfl, by decide, by decide, zw_T (zt_in (zq_5 _ (List.mem_of_getElem? (i := 48) (by decide +kernel))) rfl), fun y t h => by cases h; rfl⟩, trivial⟩
theorem zeo_zm_164 : zEok (zYf 164).1.cls (zW 164) zEX zm_164 zm_164.2.1 (zET 164) := ⟨⟨rfl, rfl, by decide, by decide, zw_T (zt_in (zq_5 _ (List.mem_of_getElem? (i := 48) (by decide +kernel))) rfl), fun y t h => by cases h; rfl⟩, ⟨rfl, rfl, by decide, by decide, zw_T (zt_in (zq_6 _ (List.mem_of_getElem? (i := 154) (by decide +kernel))) rfl), fun y t h => by cases h; rfl⟩, trivial⟩
theorem zeo_zm_165 : zEok (zYf 165).1.cls (zW 165) zEX zm_165 zm_165.2.1 (zET 165) := ⟨⟨rfl, rfl, by decide, by decide, zw_T (zt_in (zq_5 _ (List.mem_of_getElem? (i := 48) (by decide +kernel))) rfl), fun y t h => by cases h; rfl⟩, trivial⟩
theorem zeo_zm_166 : zEok (zYf 166).1.cls (zW 166) zEX zm_166 zm_166.2.1 (zET 166) := ⟨⟨rfl, rfl, by decide, by decide, zw_T (zt_in (zq_5 _ (List.mem_of_getElem? (i := 48) (by decide +kernel))) rfl), fun y t h => by cases h; rfl⟩, trivial⟩
theorem zeo_zm_167 : zEok (zYf 167).1.cls (zW 167) zEX zm_167 zm_167.2.1 (zET 167) := ⟨⟨rfl, rfl, by decide, by decide, zw_T (zt_in (zq_5 _ (List.mem_of_getElem? (i := 48) (by decide +kernel))) rfl), fun y t h => by cases h; rfl⟩, trivial⟩
theorem zeo_zm_168 : zEok (zYf 168).1.cls (zW 168) zEX zm_168 zm_168.2.1 (zET 168) := ⟨⟨rfl, rfl, by decide, by decide, zw_T (zt_in (zq_5 _ (List.mem_of_getElem? (i := 48) (by decide +kernel))) rfl), fun y t h => by cases h; rfl⟩, trivial⟩
theorem zeo_zm_169 : zEok (zYf 169).1.cls (zW 169) zEX zm_169 zm_169.2.1 (zET 169) := ⟨⟨rfl, rfl, by decide, by decide, zw_T (zt_in (zq_5 _ (List.mem_of_getElem? (i := 48) (by decide +kernel))) rfl), fun y t h => by cases h; rfl⟩, trivial⟩
