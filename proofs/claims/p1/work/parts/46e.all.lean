/-! ALL FACTS TOGETHER -/
set_option maxRecDepth 100000 in
theorem zfa_P (env : List (Nat × Nat)) : zFall env 0 zmP := ⟨⟨zc_zm_0 _, zpc_c⟩, ⟨zc_zm_1 _, zpc_c⟩, ⟨zc_zm_2 _, zpc_c⟩, ⟨zc_zm_3 _, zpc_c⟩, ⟨zc_zm_4 _, zpc_c⟩, ⟨zc_zm_5 _, zpc_c⟩, ⟨zc_zm_6 _, zpc_c⟩, ⟨zc_zm_7 _, zpc_c⟩, ⟨zc_zm_8 _, zpc_c⟩, ⟨zc_zm_9 _, zpc_c⟩, ⟨zc_zm_10 _, zpc_c⟩, ⟨zc_zm_11 _, zpc_c⟩, ⟨zc_zm_12 _, zpc_c⟩, ⟨zc_zm_13 _, zpc_c⟩, ⟨zc_zm_14 _, zpc_c⟩, ⟨zc_zm_15 _, zpc_c⟩, ⟨zc_zm_16 _, zpc_c⟩, ⟨zc_zm_17 _, zpc_c⟩, ⟨zc_zm_18 _, zpc_c⟩, ⟨zc_zm_19 _, zpc_c⟩, ⟨zc_zm_20 _, zpc_c⟩, ⟨zc_zm_21 _, zpc_c⟩, ⟨zc_zm_22 _, zpc_c⟩, ⟨zc_zm_23 _, zpc_c⟩, ⟨zc_zm_24 _, zpc_c⟩, ⟨zc_zm_25 _, zpc_c⟩, ⟨zc_zm_26 _, zpc_c⟩, ⟨zc_zm_27 _, zpc_c⟩, ⟨zc_zm_28 _, zpc_c⟩, ⟨zc_zm_29 _, zpc_c⟩, ⟨zc_zm_30 _, zpc_c⟩, ⟨zc_zm_31 _, zpc_c⟩, ⟨zc_zm_32 _, zpc_c⟩, ⟨zc_zm_33 _, zpc_c⟩, ⟨zc_zm_34 _, zpc_c⟩, ⟨zc_zm_35 _, zpc_c⟩, ⟨zc_zm_36 _, zpc_c⟩, ⟨zc_zm_37 _, zpc_c⟩, ⟨zc_zm_38 _, zpc_c⟩, ⟨zc_zm_39 _, zpc_c⟩, ⟨zc_zm_40 _, zpc_c⟩, ⟨zc_zm_41 _, zpc_c⟩, ⟨zc_zm_42 _, zpc_c⟩, ⟨zc_zm_43 _, zpc_c⟩, ⟨zc_zm_44 _, zpc_c⟩, ⟨zc_zm_45 _, zpc_c⟩, ⟨zc_zm_46 _, zpc_c⟩, ⟨zc_zm_47 _, zpc_c⟩, ⟨zc_zm_48 _, zpc_c⟩, ⟨zc_zm_49 _, zpc_c⟩, ⟨zc_zm_50 _, zpc_c⟩, ⟨zc_zm_51 _, zpc_c⟩, ⟨zc_zm_52 _, zpc_c⟩, ⟨zc_zm_53 _, zpc_c⟩, ⟨zc_zm_54 _, zpc_c⟩, ⟨zc_zm_55 _, zpc_c⟩, ⟨zc_zm_56 _, zpc_c⟩, ⟨zc_zm_57 _, zpc_c⟩, ⟨zc_zm_58 _, zpc_c⟩, ⟨zc_zm_59 _, zpc_c⟩, ⟨zc_zm_60 _, zpc_c⟩, ⟨zc_zm_61 _, zpc_c⟩, ⟨zc_zm_62 _, zpc_c⟩, ⟨zc_zm_63 _, zpc_c⟩, ⟨zc_zm_64 _, zpc_c⟩, ⟨zc_zm_65 _, zpc_c⟩, ⟨zc_zm_66 _, zpc_c⟩, ⟨zc_zm_67 _, zpc_c⟩, ⟨zc_zm_68 _, zpc_c⟩, ⟨zc_zm_69 _, zpc_c⟩, ⟨zc_zm_70 _, zpc_c⟩, ⟨zc_zm_71 _, zpc_c⟩, ⟨zc_zm_72 _, zpc_c⟩, ⟨zc_zm_73 _, zpc_c⟩, ⟨zc_zm_74 _, zpc_c⟩, ⟨zc_zm_75 _, zpc_c⟩, ⟨zc_zm_76 _, zpc_c⟩, ⟨zc_zm_77 _, zpc_c⟩, ⟨zc_zm_78 _, zpc_c⟩, ⟨zc_zm_79 _, zpc_c⟩, ⟨zc_zm_80 _, zpc_c⟩, ⟨zc_zm_81 _, zpc_c⟩, ⟨zc_zm_82 _, zpc_c⟩, ⟨zc_zm_83 _, zpc_c⟩, ⟨zc_zm_84 _, zpc_c⟩, ⟨zc_zm_85 _, zpc_c⟩, ⟨zc_zm_86 _, zpc_c⟩, ⟨zc_zm_87 _, zpc_c⟩, ⟨zc_zm_88 _, zpc_c⟩, ⟨zc_zm_89 _, zpc_c⟩, ⟨zc_zm_90 _, zpc_c⟩, ⟨zc_zm_91 _, zpc_c⟩, ⟨zc_zm_92 _, zpc_c⟩, ⟨zc_zm_93 _, zpc_c⟩, ⟨zc_zm_94 _, zpc_c⟩, ⟨zc_zm_95 _, zpc_c⟩, ⟨zc_zm_96 _, zpc_c⟩, ⟨zc_zm_97 _, zpc_c⟩, ⟨zc_zm_98 _, zpc_c⟩, ⟨zc_zm_99 _, zpc_c⟩, ⟨zc_zm_100 _, zpc_c⟩, ⟨zc_zm_101 _, zpc_c⟩, ⟨zc_zm_102 _, zpc_c⟩, ⟨zc_zm_103 _, zpc_c⟩, ⟨zc_zm_104 _, zpc_c⟩, ⟨zc_zm_105 _, zpc_c⟩, ⟨zc_zm_106 _, zpc_c⟩, ⟨zc_zm_107 _, zpc_c⟩, ⟨zc_zm_108 _, zpc_c⟩, ⟨zc_zm_109 _, zpc_c⟩, ⟨zc_zm_110 _, zpc_c⟩, ⟨zc_zm_111 _, zpc_c⟩, ⟨zc_zm_112 _, zpc_c⟩, ⟨zc_zm_113 _, zpc_c⟩, ⟨zc_zm_114 _, zpc_c⟩, ⟨zc_zm_115 _, zpc_c⟩, ⟨zc_zm_116 _, zpc_c⟩, ⟨zc_zm_117 _, zpc_c⟩, ⟨zc_zm_118 _, zpc_c⟩, ⟨zc_zm_119 _, zpc_c⟩, ⟨zc_zm_120 _, zpc_c⟩, ⟨zc_zm_121 _, zpc_c⟩, ⟨zc_zm_122 _, zpc_c⟩, ⟨zc_zm_123 _, zpc_c⟩, ⟨zc_zm_124 _, zpc_c⟩, ⟨zc_zm_125 _, zpc_c⟩, ⟨zc_zm_126 _, zpc_c⟩, ⟨zc_zm_127 _, zpc_c⟩, ⟨zc_zm_128 _, zpc_c⟩, ⟨zc_zm_129 _, zpc_c⟩, ⟨zc_zm_130 _, zpc_c⟩, ⟨zc_zm_131 _, zpc_c⟩, ⟨zc_zm_132 _, zpc_c⟩, ⟨zc_zm_133 _, zpc_c⟩, ⟨zc_zm_134 _, zpc_c⟩, ⟨zc_zm_135 _, zpc_c⟩, ⟨zc_zm_136 _, zpc_c⟩, ⟨zc_zm_137 _, zpc_c⟩, ⟨zc_zm_138 _, zpc_c⟩, ⟨zc_zm_139 _, zpc_c⟩, ⟨zc_zm_140 _, zpc_c⟩, ⟨zc_zm_141 _, zpc_c⟩, ⟨zc_zm_142 _, zpc_c⟩, ⟨zc_zm_143 _, zpc_c⟩, ⟨zc_zm_144 _, zpc_c⟩, ⟨zc_zm_145 _, zpc_c⟩, ⟨zc_zm_146 _, zpc_c⟩, ⟨zc_zm_147 _, zpc_c⟩, ⟨zc_zm_148 _, zpc_c⟩, ⟨zc_zm_149 _, zpc_c⟩, ⟨zc_zm_150 _, zpc_c⟩, ⟨zc_zm_151 _, zpc_c⟩, ⟨zc_zm_152 _, zpc_c⟩, ⟨zc_zm_153 _, zpc_c⟩, ⟨zc_zm_154 _, zpc_c⟩, ⟨zc_zm_155 _, zpc_c⟩, ⟨zc_zm_156 _, zpc_c⟩, ⟨zc_zm_157 _, zpc_c⟩, ⟨zc_zm_158 _, zpc_c⟩, ⟨zc_zm_159 _, zpc_c⟩, ⟨zc_zm_160 _, zpc_c⟩, ⟨zc_zm_161 _, zpc_c⟩, ⟨zc_zm_162 _, zpc_c⟩, ⟨zc_zm_163 _, zpc_c⟩, ⟨zc_zm_164 _, zpc_c⟩, ⟨zc_zm_165 _, zpc_c⟩, ⟨zc_zm_166 _, zpc_c⟩, ⟨zc_zm_167 _, zpc_c⟩, ⟨zc_zm_168 _, zpc_c⟩, ⟨zc_zm_169 _, zpc_c⟩, ⟨zc_zm_170 _, zpc_c⟩, ⟨zc_zm_171 _, zpc_c⟩, ⟨zc_zlp _, zpc_c⟩, trivial⟩
def zmL2 : List zP := [zm_0, zm_1, zm_2, zm_3, zm_4, zm_5, zm_6, zm_7, zm_8, zm_9, zm_10, zm_11, zm_12, zm_13, zm_14, zm_15, zm_16, zm_17, zm_18, zm_19, zm_20, zm_21, zm_22, zm_23, zm_24, zm_25, zm_26, zm_27, zm_28, zm_29, zm_30, zm_31, zm_32, zm_33, zm_34, zm_35, zm_36, zm_37, zm_38, zm_39, zm_40, zm_41, zm_42, zm_43, zm_44, zm_45, zm_46, zm_47, zm_48, zm_49, zm_50, zm_51, zm_52, zm_53, zm_54, zm_55, zm_56, zm_57, zm_58, zm_59, zm_60, zm_61, zm_62, zm_63, zm_64, zm_65, zm_66, zm_67, zm_68, zm_69, zm_70, zm_71, zm_72, zm_73, zm_74, zm_75, zm_76, zm_77, zm_78, zm_79, zm_80, zm_81, zm_82, zm_83, zm_84, zm_85, zm_86, zm_87, zm_88, zm_89, zm_90, zm_91, zm_92, zm_93, zm_94, zm_95, zm_96, zm_97, zm_98, zm_99, zm_100, zm_101, zm_102, zm_103, zm_104, zm_105, zm_106, zm_107, zm_108, zm_109, zm_110, zm_111, zm_112, zm_113, zm_114, zm_115, zm_116, zm_117, zm_118, zm_119, zm_120, zm_121, zm_122, zm_123, zm_124, zm_125, zm_126, zm_127, zm_128, zm_129, zm_130, zm_131, zm_132, zm_133, zm_134, zm_135, zm_136, zm_137, zm_138, zm_139, zm_140, zm_141, zm_142, zm_143, zm_144, zm_145, zm_146, zm_147, zm_148, zm_149, zm_150, zm_151, zm_152, zm_153, zm_154, zm_155, zm_156, zm_157, zm_158, zm_159, zm_160, zm_161, zm_162, zm_163, zm_164, zm_165, zm_166, zm_167, zm_168, zm_169, zm_170, zm_171]
set_option maxRecDepth 100000 in
theorem zfa_L (env : List (Nat × Nat)) : zFall env 0 zmL2 := ⟨⟨zc_zm_0 _, zpc_c⟩, ⟨zc_zm_1 _, zpc_c⟩, ⟨zc_zm_2 _, zpc_c⟩, ⟨zc_zm_3 _, zpc_c⟩, ⟨zc_zm_4 _, zpc_c⟩, ⟨zc_zm_5 _, zpc_c⟩, ⟨zc_zm_6 _, zpc_c⟩, ⟨zc_zm_7 _, zpc_c⟩, ⟨zc_zm_8 _, zpc_c⟩, ⟨zc_zm_9 _, zpc_c⟩, ⟨zc_zm_10 _, zpc_c⟩, ⟨zc_zm_11 _, zpc_c⟩, ⟨zc_zm_12 _, zpc_c⟩, ⟨zc_zm_13 _, zpc_c⟩, ⟨zc_zm_14 _, zpc_c⟩, ⟨zc_zm_15 _, zpc_c⟩, ⟨zc_zm_16 _, zpc_c⟩, ⟨zc_zm_17 _, zpc_c⟩, ⟨zc_zm_18 _, zpc_c⟩, ⟨zc_zm_19 _, zpc_c⟩, ⟨zc_zm_20 _, zpc_c⟩, ⟨zc_zm_21 _, zpc_c⟩, ⟨zc_zm_22 _, zpc_c⟩, ⟨zc_zm_23 _, zpc_c⟩, ⟨zc_zm_24 _, zpc_c⟩, ⟨zc_zm_25 _, zpc_c⟩, ⟨zc_zm_26 _, zpc_c⟩, ⟨zc_zm_27 _, zpc_c⟩, ⟨zc_zm_28 _, zpc_c⟩, ⟨zc_zm_29 _, zpc_c⟩, ⟨zc_zm_30 _, zpc_c⟩, ⟨zc_zm_31 _, zpc_c⟩, ⟨zc_zm_32 _, zpc_c⟩, ⟨zc_zm_33 _, zpc_c⟩, ⟨zc_zm_34 _, zpc_c⟩, ⟨zc_zm_35 _, zpc_c⟩, ⟨zc_zm_36 _, zpc_c⟩, ⟨zc_zm_37 _, zpc_c⟩, ⟨zc_zm_38 _, zpc_c⟩, ⟨zc_zm_39 _, zpc_c⟩, ⟨zc_zm_40 _, zpc_c⟩, ⟨zc_zm_41 _, zpc_c⟩, ⟨zc_zm_42 _, zpc_c⟩, ⟨zc_zm_43 _, zpc_c⟩, ⟨zc_zm_44 _, zpc_c⟩, ⟨zc_zm_45 _, zpc_c⟩, ⟨zc_zm_46 _, zpc_c⟩, ⟨zc_zm_47 _, zpc_c⟩, ⟨zc_zm_48 _, zpc_c⟩, ⟨zc_zm_49 _, zpc_c⟩, ⟨zc_zm_50 _, zpc_c⟩, ⟨zc_zm_51 _, zpc_c⟩, ⟨zc_zm_52 _, zpc_c⟩, ⟨zc_zm_53 _, zpc_c⟩, ⟨zc_zm_54 _, zpc_c⟩, ⟨zc_zm_55 _, zpc_c⟩, ⟨zc_zm_56 _, zpc_c⟩, ⟨zc_zm_57 _, zpc_c⟩, ⟨zc_zm_58 _, zpc_c⟩, ⟨zc_zm_59 _, zpc_c⟩, ⟨zc_zm_60 _, zpc_c⟩, ⟨zc_zm_61 _, zpc_c⟩, ⟨zc_zm_62 _, zpc_c⟩, ⟨zc_zm_63 _, zpc_c⟩, ⟨zc_zm_64 _, zpc_c⟩, ⟨zc_zm_65 _, zpc_c⟩, ⟨zc_zm_66 _, zpc_c⟩, ⟨zc_zm_67 _, zpc_c⟩, ⟨zc_zm_68 _, zpc_c⟩, ⟨zc_zm_69 _, zpc_c⟩, ⟨zc_zm_70 _, zpc_c⟩, ⟨zc_zm_71 _, zpc_c⟩, ⟨zc_zm_72 _, zpc_c⟩, ⟨zc_zm_73 _, zpc_c⟩, ⟨zc_zm_74 _, zpc_c⟩, ⟨zc_zm_75 _, zpc_c⟩, ⟨zc_zm_76 _, zpc_c⟩, ⟨zc_zm_77 _, zpc_c⟩, ⟨zc_zm_78 _, zpc_c⟩, ⟨zc_zm_79 _, zpc_c⟩, ⟨zc_zm_80 _, zpc_c⟩, ⟨zc_zm_81 _, zpc_c⟩, ⟨zc_zm_82 _, zpc_c⟩, ⟨zc_zm_83 _, zpc_c⟩, ⟨zc_zm_84 _, zpc_c⟩, ⟨zc_zm_85 _, zpc_c⟩, ⟨zc_zm_86 _, zpc_c⟩, ⟨zc_zm_87 _, zpc_c⟩, ⟨zc_zm_88 _, zpc_c⟩, ⟨zc_zm_89 _, zpc_c⟩, ⟨zc_zm_90 _, zpc_c⟩, ⟨zc_zm_91 _, zpc_c⟩, ⟨zc_zm_92 _, zpc_c⟩, ⟨zc_zm_93 _, zpc_c⟩, ⟨zc_zm_94 _, zpc_c⟩, ⟨zc_zm_95 _, zpc_c⟩, ⟨zc_zm_96 _, zpc_c⟩, ⟨zc_zm_97 _, zpc_c⟩, ⟨zc_zm_98 _, zpc_c⟩, ⟨zc_zm_99 _, zpc_c⟩, ⟨zc_zm_100 _, zpc_c⟩, ⟨zc_zm_101 _, zpc_c⟩, ⟨zc_zm_102 _, zpc_c⟩, ⟨zc_zm_103 _, zpc_c⟩, ⟨zc_zm_104 _, zpc_c⟩, ⟨zc_zm_105 _, zpc_c⟩, ⟨zc_zm_106 _, zpc_c⟩, ⟨zc_zm_107 _, zpc_c⟩, ⟨zc_zm_108 _, zpc_c⟩, ⟨zc_zm_109 _, zpc_c⟩, ⟨zc_zm_110 _, zpc_c⟩, ⟨zc_zm_111 _, zpc_c⟩, ⟨zc_zm_112 _, zpc_c⟩, ⟨zc_zm_113 _, zpc_c⟩, ⟨zc_zm_114 _, zpc_c⟩, ⟨zc_zm_115 _, zpc_c⟩, ⟨zc_zm_116 _, zpc_c⟩, ⟨zc_zm_117 _, zpc_c⟩, ⟨zc_zm_118 _, zpc_c⟩, ⟨zc_zm_119 _, zpc_c⟩, ⟨zc_zm_120 _, zpc_c⟩, ⟨zc_zm_121 _, zpc_c⟩, ⟨zc_zm_122 _, zpc_c⟩, ⟨zc_zm_123 _, zpc_c⟩, ⟨zc_zm_124 _, zpc_c⟩, ⟨zc_zm_125 _, zpc_c⟩, ⟨zc_zm_126 _, zpc_c⟩, ⟨zc_zm_127 _, zpc_c⟩, ⟨zc_zm_128 _, zpc_c⟩, ⟨zc_zm_129 _, zpc_c⟩, ⟨zc_zm_130 _, zpc_c⟩, ⟨zc_zm_131 _, zpc_c⟩, ⟨zc_zm_132 _, zpc_c⟩, ⟨zc_zm_133 _, zpc_c⟩, ⟨zc_zm_134 _, zpc_c⟩, ⟨zc_zm_135 _, zpc_c⟩, ⟨zc_zm_136 _, zpc_c⟩, ⟨zc_zm_137 _, zpc_c⟩, ⟨zc_zm_138 _, zpc_c⟩, ⟨zc_zm_139 _, zpc_c⟩, ⟨zc_zm_140 _, zpc_c⟩, ⟨zc_zm_141 _, zpc_c⟩, ⟨zc_zm_142 _, zpc_c⟩, ⟨zc_zm_143 _, zpc_c⟩, ⟨zc_zm_144 _, zpc_c⟩, ⟨zc_zm_145 _, zpc_c⟩, ⟨zc_zm_146 _, zpc_c⟩, ⟨zc_zm_147 _, zpc_c⟩, ⟨zc_zm_148 _, zpc_c⟩, ⟨zc_zm_149 _, zpc_c⟩, ⟨zc_zm_150 _, zpc_c⟩, ⟨zc_zm_151 _, zpc_c⟩, ⟨zc_zm_152 _, zpc_c⟩, ⟨zc_zm_153 _, zpc_c⟩, ⟨zc_zm_154 _, zpc_c⟩, ⟨zc_zm_155 _, zpc_c⟩, ⟨zc_zm_156 _, zpc_c⟩, ⟨zc_zm_157 _, zpc_c⟩, ⟨zc_zm_158 _, zpc_c⟩, ⟨zc_zm_159 _, zpc_c⟩, ⟨zc_zm_160 _, zpc_c⟩, ⟨zc_zm_161 _, zpc_c⟩, ⟨zc_zm_162 _, zpc_c⟩, ⟨zc_zm_163 _, zpc_c⟩, ⟨zc_zm_164 _, zpc_c⟩, ⟨zc_zm_165 _, zpc_c⟩, ⟨zc_zm_166 _, zpc_c⟩, ⟨zc_zm_167 _, zpc_c⟩, ⟨zc_zm_168 _, zpc_c⟩, ⟨zc_zm_169 _, zpc_c⟩, ⟨zc_zm_170 _, zpc_c⟩, ⟨zc_zm_171 _, zpc_c⟩, trivial⟩
/-! THE SAME FOR A METHOD THAT NOBODY CALLS -/
section ZS2
variable {X : State → Nat → (Nat → Prop) → (Nat → Int32) → Prop} {QF : zQT} {ZM : zMT} {Y : Nat → zY} {W0 : Nat → List Cond} {ET : Nat → List ExceptionTableEntry} {cl : List vw_C} {ft : List FieldType} {G : zG} {mt : List zP}
theorem z_sound2 {ρ : Nat → Int32} {b : Nat} (he : ze ρ G.2.2.2) (hmt : ∀ (a : Nat) (me : zP), z_at mt a = some me → zcode X QF ZM Y W0 ET cl ft G a me me.1 ∧ zpc me.1 0)
    (hZ : ∀ (a : Nat) (me : zP) (d : Nat) (as : List zV) (S : zS) (o : zR), z_at mt a = some me → z_cats as ≤ (Y a).2.2.1 → (o.1 = 1 ∨ o.1 = 2 ∨ o.1 = 3) → zbody X QF Y W0 ET cl ft ρ b a d me.1 (z_args 0 as, [], z_in S) o → ZM ρ b a d as (z_in S) o) :
    ∀ (f d a : Nat) (me : zP) (cs : List zJ) (k : zK) (o : zR), zcode X QF ZM Y W0 ET cl ft G a me me.1 → zcode X QF ZM Y W0 ET cl ft G a me cs → zx mt G f d me cs k = o → zGd o → zbody X QF Y W0 ET cl ft ρ b a d cs k o := by
  intro f
  induction f with
  | zero =>
    intro d a me cs k o ha hc h ho
    exact absurd (show o.1 = 0 by rw [← h]; rfl) (by unfold zGd at ho; omega)
  | succ f ih =>
    intro d a me cs k o ha hc h ho p l e R s m args below meth c D A ad0 pc Q hpc hC hst hET hret hR hX hQ5 hQn
    obtain ⟨f2, x, r, ef, ecs, N, hN, hs⟩ := zx_step h ho
    cases ef
    subst ecs
    have epc : x.1 = pc := hpc x r rfl
    subst epc
    obtain ⟨hR1, hR2, hR3, hR4⟩ := hR
    have hzc := hc.2
    have hall := ha
    rcases hc.1 with ⟨n, hI, hn⟩ | hI | ⟨hI, hn⟩ | ⟨n, hI, hn⟩
    · have hI := hI p l e R s m args below meth c Q D A ρ b ad0 k hC (by omega) (by omega) he hX
      rw [hN] at hI
      unfold zres at hI
      rcases hs with ⟨e1, h1, h2, h3⟩ | ⟨e1, h1, h2, h3⟩ | ⟨e1, h1, h2, h3⟩ | ⟨e1, h1, h2, h3⟩ | ⟨e1, h1, h2, h3⟩ | ⟨e1, h0, h1, h2, h3⟩ | ⟨e1, h0, h1, h2, h3⟩ | ⟨e1, h0, h1, h2, h3⟩ | ⟨e1, h1, h2, h3⟩ | ⟨e1, h1⟩
      · rw [e1] at hI
        have hm := zx_mono f h1 ho
        exact hI (Nat.le_trans hm.1 hR3) (Nat.le_trans hm.2 hR4) (ih d a me r N.2.2.2 o ha hzc h1 ho p l e R s m args below meth c D A ad0 n Q hn hC hst hET hret ⟨hR1, hR2, hR3, hR4⟩ hX hQ5 hQn)
      · rw [e1] at hI
        refine hI (fun y r2 hy => ?_)
        exact ih d a me _ N.2.2.2 o ha (zcode_drop _ hall) h1 ho p l e R s m args below meth c D A ad0 y.1 Q (fun y2 r3 h9 => by rw [hy] at h9; cases h9; rfl) hC hst hET hret ⟨hR1, hR2, hR3, hR4⟩ hX hQ5 hQn
      · rw [e1] at hI
        refine hI (fun y r2 hy => ?_)
        exact ih d a me _ N.2.2.2 o ha (zcode_drop _ hall) h1 ho p l e R s m args below meth c D A ad0 y.1 Q (fun y2 r3 h9 => by rw [hy] at h9; cases h9; rfl) hC hst hET hret ⟨hR1, hR2, hR3, hR4⟩ hX hQ5 hQn
      · rw [e1] at hI; exact hI.elim
      · rw [e1] at hI; exact hI.elim
      · rw [e1] at hI; exact hI.elim
      · rw [e1] at hI
        have hm := zx_mono f h1 ho
        exact hI hst (by omega) (by omega) (Nat.le_trans hm.1 hR3) (Nat.le_trans hm.2 hR4) (ih d a me r N.2.2.2 o ha hzc h1 ho p l e R s m args below meth c D A ad0 n Q hn hC hst hET hret ⟨hR1, hR2, hR3, hR4⟩ hX hQ5 hQn)
      · rw [e1] at hI
        refine hI (ih d a me r N.2.2.2 o ha hzc h1 ho p l e R s m args below meth c D A ad0 n Q hn hC hst hET hret ⟨hR1, hR2, hR3, hR4⟩ hX hQ5 hQn) (fun y r2 hy => ?_)
        exact ih d a me _ N.2.2.2 o ha (zcode_drop _ hall) h0 ho p l e R s m args below meth c D A ad0 y.1 Q (fun y2 r3 h9 => by rw [hy] at h9; cases h9; rfl) hC hst hET hret ⟨hR1, hR2, hR3, hR4⟩ hX hQ5 hQn
      · rw [e1] at hI
        subst h1
        have hI : N.2.2.2 = k := hI
        have hq := hQ5 rfl
        rw [← hI]
        exact hq
      · rw [e1] at hI; exact hI.elim
    · have hI := hI p l e R s m args below meth c D A ρ b ad0 k hC hst hET hret (by omega) (by omega) he hX
      rw [hN] at hI
      rcases hs with ⟨e1, h1, h2, h3⟩ | ⟨e1, h1, h2, h3⟩ | ⟨e1, h1, h2, h3⟩ | ⟨e1, h1, h2, h3⟩ | ⟨e1, h1, h2, h3⟩ | ⟨e1, h0, h1, h2, h3⟩ | ⟨e1, h0, h1, h2, h3⟩ | ⟨e1, h0, h1, h2, h3⟩ | ⟨e1, h1, h2, h3⟩ | ⟨e1, h1⟩
      · rw [e1] at hI; exact hI.elim
      · rw [e1] at hI; exact hI.elim
      · rw [e1] at hI; exact hI.elim
      · rw [e1] at hI; subst h1; rw [hQn (fun z => absurd (show (1 : Nat) = 5 from z) (by decide))]; exact hI
      · rw [e1] at hI; subst h1; rw [hQn (fun z => absurd (show (2 : Nat) = 5 from z) (by decide))]; exact hI
      · rw [e1] at hI; subst h1; rw [hQn (fun z => absurd (show (3 : Nat) = 5 from z) (by decide))]; exact hI (by omega) (by omega) hR3 hR4
      · rw [e1] at hI; exact hI.elim
      · rw [e1] at hI; exact hI.elim
      · rw [e1] at hI; exact hI.elim
      · rw [e1] at hI; exact hI.elim
    · have hI := hI p l e R s m args below meth c D A ρ b k N hN hC hst hET he hX
      rcases hs with ⟨e1, h1, h2, h3⟩ | ⟨e1, h1, h2, h3⟩ | ⟨e1, h1, h2, h3⟩ | ⟨e1, h1, h2, h3⟩ | ⟨e1, h1, h2, h3⟩ | ⟨e1, h0, h1, h2, h3⟩ | ⟨e1, h0, h1, h2, h3⟩ | ⟨e1, h0, h1, h2, h3⟩ | ⟨e1, h1, h2, h3⟩ | ⟨e1, d2, m2, o2, ed, em, ex, hs⟩
      · rw [e1] at hI; exact hI.elim
      · rw [e1] at hI; exact hI.elim
      · rw [e1] at hI; exact hI.elim
      · rw [e1] at hI; exact hI.elim
      · rw [e1] at hI; exact hI.elim
      · rw [e1] at hI; exact hI.elim
      · rw [e1] at hI; exact hI.elim
      · rw [e1] at hI; exact hI.elim
      · rw [e1] at hI; exact hI.elim
      · rw [e1] at hI
        obtain ⟨as, g1, g2, g3, g4, hI⟩ := hI
        subst ed
        have ho2 : o2.1 = 1 ∨ o2.1 = 2 ∨ o2.1 = 3 := by
          rcases hs with ⟨e2, -⟩ | ⟨e2, -⟩ | ⟨e2, -⟩ | ⟨e2, -⟩ <;> omega
        rw [g1, g3] at ex
        obtain ⟨q1, q2⟩ := hmt N.2.1 m2 em
        have hM : ZM ρ b N.2.1 d2 as (z_in k.2.2) o2 := hZ N.2.1 m2 d2 as k.2.2 o2 em g4 ho2 (ih d2 N.2.1 m2 m2.1 (z_args 0 as, [], z_in k.2.2) o2 q1 q1 ex (by unfold zGd; omega))
        have hcs : k.2.2.2.2.1 + o2.2.2.2.2.2.2.1 ≤ R.cells ∧ k.2.2.2.2.2 + o2.2.2.2.2.2.2.2 ≤ R.slots := by
          refine (fun (q : k.2.2.2.2.1 + o2.2.2.2.2.2.2.1 ≤ o.2.2.2.2.2.2.1 ∧ k.2.2.2.2.2 + o2.2.2.2.2.2.2.2 ≤ o.2.2.2.2.2.2.2) => ⟨Nat.le_trans q.1 hR3, Nat.le_trans q.2 hR4⟩) ?_
          rcases hs with ⟨-, h1, -, -⟩ | ⟨-, h1, -, -⟩ | ⟨-, -, q, -, h1, -, -⟩ | ⟨-, -, -, h1, -, -⟩
          · have := zx_mono f h1 ho
            rw [g3] at this
            exact this
          · have := zx_mono f h1 ho
            rw [g3] at this
            exact this
          · have := zx_mono f h1 ho
            rw [g3] at this
            exact this
          · subst h1
            rw [g3]
            exact ⟨Nat.le_refl _, Nat.le_refl _⟩
        obtain ⟨j1, j2⟩ := hI d2 o2 (by omega) (by omega) hcs.1 hcs.2 hM
        have hA := hC.2.2.2.2.2.1
        rw [g3] at hs
        have ek : k = (k.1, as.reverse ++ N.2.2.2.2.1, k.2.2) := by rw [← g2]
        rcases hs with ⟨e2, h1, -, -⟩ | ⟨e2, h1, -, -⟩ | ⟨e2, hx3, q, hq, h1, -, -⟩ | ⟨e2, hx3, hq, h1, -, -⟩
        · rw [ek]
          refine zk_call (o := o2) hA (j1 (Or.inl e2)) (fun _ => ?_) (fun h9 => by rw [e2] at h9; cases h9)
          exact ih _ a me r _ o ha hzc h1 ho p l e R s m args below meth c D A ad0 _ Q hn hC hst hET hret ⟨hR1, hR2, hR3, hR4⟩ hX hQ5 hQn
        · rw [ek]
          refine zk_call (o := o2) hA (j1 (Or.inr e2)) (fun h9 => by rw [e2] at h9; cases h9) (fun _ => ?_)
          exact ih _ a me r _ o ha hzc h1 ho p l e R s m args below meth c D A ad0 _ Q hn hC hst hET hret ⟨hR1, hR2, hR3, hR4⟩ hX hQ5 hQn
        · cases hy : z_drop me.1 q with
          | nil =>
            rw [hy] at h1
            obtain ⟨f3, x3, r3, -, h9, -⟩ := zx_step h1 ho
            cases h9
          | cons y r2 =>
            refine (j2 e2 hx3).1 q y r2 hq hy _ ad0 ?_
            exact ih _ a me _ _ o ha (zcode_drop _ hall) h1 ho p l e R s m args below meth c D A ad0 y.1 Q (fun y2 r3 h9 => by rw [hy] at h9; cases h9; rfl) hC hst hET hret ⟨hR1, hR2, hR3, hR4⟩ hX hQ5 hQn
        · subst h1
          rw [hQn (fun z => absurd (show (3 : Nat) = 5 from z) (by decide))]
          exact (j2 e2 hx3).2 hq ad0
    · have hI := hI p l e R s m args below meth c Q D A ρ b ad0 k N hN hC hst hET hret he hX
      rcases hs with ⟨e1, h1, h2, h3⟩ | ⟨e1, h1, h2, h3⟩ | ⟨e1, h1, h2, h3⟩ | ⟨e1, h1, h2, h3⟩ | ⟨e1, h1, h2, h3⟩ | ⟨e1, h0, h1, h2, h3⟩ | ⟨e1, h0, h1, h2, h3⟩ | ⟨e1, h0, h1, h2, h3⟩ | ⟨e1, h1, h2, h3⟩ | ⟨e1, h1⟩
      · rw [e1] at hI; exact hI.elim
      · rw [e1] at hI; exact hI.elim
      · rw [e1] at hI; exact hI.elim
      · rw [e1] at hI; exact hI.elim
      · rw [e1] at hI; exact hI.elim
      · rw [e1] at hI; exact hI.elim
      · rw [e1] at hI
        have hm := zx_mono f h1 ho
        exact hI (by omega) (by omega) (Nat.le_trans hm.1 hR3) (Nat.le_trans hm.2 hR4) (ih d a me r N.2.2.2 o ha hzc h1 ho p l e R s m args below meth c D A ad0 n Q hn hC hst hET hret ⟨hR1, hR2, hR3, hR4⟩ hX hQ5 hQn)
      · rw [e1] at hI; exact hI.elim
      · rw [e1] at hI; exact hI.elim
      · rw [e1] at hI; exact hI.elim
end ZS2

theorem zsnd2 {mt : List zP} {env : List (Nat × Nat)} (hF : zFall env 0 mt) {ρ : Nat → Int32} {b : Nat} (he : ze ρ env) {f d a : Nat} {me : zP} {cs : List zJ} {k : zK} {o : zR} (ha : zcode zX (z_QF zEX zcl zft) (z_zm zEX zX zWL zcl zft zYf) zYf zW zET zcl zft (zGv env) a me me.1) (hc : zcode zX (z_QF zEX zcl zft) (z_zm zEX zX zWL zcl zft zYf) zYf zW zET zcl zft (zGv env) a me cs) (h : zx mt (zGv env) f d me cs k = o) (ho : zGd o) : zbody zX (z_QF zEX zcl zft) zYf zW zET zcl zft ρ b a d cs k o :=
  z_sound2 (G := zGv env) he (zFall_0 hF) (z_hZ zNok_ok (fun a me ha => ⟨zWok_all a, (zFall_0 hF a me ha).2⟩)) f d a me cs k o ha hc h ho
