def f_Pa_expression (E : Int32 → Int32 → Int32 → ST → Rz) (S : Int32 → Int32 → ST → Rz) (F : Int32 → Int32 → ST → Rz) (st : ST) (level : Int32) (depth : Int32) (inn : Int32) : Rz := (bnd (f_Cu_guard st depth) (fun _ st_1 => (if 12 ≤ level then (if (f_Cu_atSign st_1 60) = 0 then (if (f_Cu_atSign st_1 62) = 0 then (if (f_Cu_atSign st_1 64) = 0 then (if (f_Cu_atWord st_1 11) = 0 then (if (f_Cu_atWord st_1 15) = 0 then (bnd (f_Pa_leaf st_1) (fun _ st_8 => (bnd (f_Pa_tails E S F st_8 (f_Tr_count (sTr st_1)) depth 0) (fun _ st_9 => (if 10 < level then (if 0 < level then (if level = (-1) then (bnd (f_Pa_commas E S F st_9 (f_Tr_count (sTr st_1)) depth inn) (fun _ st_13 => (some (.inr (0, st_13))))) else (some (.inr (0, st_9)))) else (bnd (f_Pa_conditional E S F st_9 (f_Tr_count (sTr st_1)) depth inn) (fun _ st_14 => (bnd (f_Pa_assignment E S F st_14 (f_Tr_count (sTr st_1)) depth inn) (fun _ st_15 => (if level = (-1) then (bnd (f_Pa_commas E S F st_15 (f_Tr_count (sTr st_1)) depth inn) (fun _ st_17 => (some (.inr (0, st_17))))) else (some (.inr (0, st_15))))))))) else (bnd (f_Pa_binaries E S F st_9 (f_Tr_count (sTr st_1)) (if level < 1 then 1 else level) depth inn) (fun _ st_18 => (if 0 < level then (if level = (-1) then (bnd (f_Pa_commas E S F st_18 (f_Tr_count (sTr st_1)) depth inn) (fun _ st_21 => (some (.inr (0, st_21))))) else (some (.inr (0, st_18)))) else (bnd (f_Pa_conditional E S F st_18 (f_Tr_count (sTr st_1)) depth inn) (fun _ st_22 => (bnd (f_Pa_assignment E S F st_22 (f_Tr_count (sTr st_1)) depth inn) (fun _ st_23 => (if level = (-1) then (bnd (f_Pa_commas E S F st_23 (f_Tr_count (sTr st_1)) depth inn) (fun _ st_25 => (some (.inr (0, st_25))))) else (some (.inr (0, st_23)))))))))))))))) else (bnd (f_Pa_construction E S F st_1 depth) (fun _ st_26 => (bnd (f_Pa_tails E S F st_26 (f_Tr_count (sTr st_1)) depth 0) (fun _ st_27 => (if 10 < level then (if 0 < level then (if level = (-1) then (bnd (f_Pa_commas E S F st_27 (f_Tr_count (sTr st_1)) depth inn) (fun _ st_31 => (some (.inr (0, st_31))))) else (some (.inr (0, st_27)))) else (bnd (f_Pa_conditional E S F st_27 (f_Tr_count (sTr st_1)) depth inn) (fun _ st_32 => (bnd (f_Pa_assignment E S F st_32 (f_Tr_count (sTr st_1)) depth inn) (fun _ st_33 => (if level = (-1) then (bnd (f_Pa_commas E S F st_33 (f_Tr_count (sTr st_1)) depth inn) (fun _ st_35 => (some (.inr (0, st_35))))) else (some (.inr (0, st_33))))))))) else (bnd (f_Pa_binaries E S F st_27 (f_Tr_count (sTr st_1)) (if level < 1 then 1 else level) depth inn) (fun _ st_36 => (if 0 < level then (if level = (-1) then (bnd (f_Pa_commas E S F st_36 (f_Tr_count (sTr st_1)) depth inn) (fun _ st_39 => (some (.inr (0, st_39))))) else (some (.inr (0, st_36)))) else (bnd (f_Pa_conditional E S F st_36 (f_Tr_count (sTr st_1)) depth inn) (fun _ st_40 => (bnd (f_Pa_assignment E S F st_40 (f_Tr_count (sTr st_1)) depth inn) (fun _ st_41 => (if level = (-1) then (bnd (f_Pa_commas E S F st_41 (f_Tr_count (sTr st_1)) depth inn) (fun _ st_43 => (some (.inr (0, st_43))))) else (some (.inr (0, st_41))))))))))))))))) else (bnd (F 50 depth st_1) (fun _ st_44 => (bnd (f_Pa_tails E S F st_44 (f_Tr_count (sTr st_1)) depth 0) (fun _ st_45 => (if 10 < level then (if 0 < level then (if level = (-1) then (bnd (f_Pa_commas E S F st_45 (f_Tr_count (sTr st_1)) depth inn) (fun _ st_49 => (some (.inr (0, st_49))))) else (some (.inr (0, st_45)))) else (bnd (f_Pa_conditional E S F st_45 (f_Tr_count (sTr st_1)) depth inn) (fun _ st_50 => (bnd (f_Pa_assignment E S F st_50 (f_Tr_count (sTr st_1)) depth inn) (fun _ st_51 => (if level = (-1) then (bnd (f_Pa_commas E S F st_51 (f_Tr_count (sTr st_1)) depth inn) (fun _ st_53 => (some (.inr (0, st_53))))) else (some (.inr (0, st_51))))))))) else (bnd (f_Pa_binaries E S F st_45 (f_Tr_count (sTr st_1)) (if level < 1 then 1 else level) depth inn) (fun _ st_54 => (if 0 < level then (if level = (-1) then (bnd (f_Pa_commas E S F st_54 (f_Tr_count (sTr st_1)) depth inn) (fun _ st_57 => (some (.inr (0, st_57))))) else (some (.inr (0, st_54)))) else (bnd (f_Pa_conditional E S F st_54 (f_Tr_count (sTr st_1)) depth inn) (fun _ st_58 => (bnd (f_Pa_assignment E S F st_58 (f_Tr_count (sTr st_1)) depth inn) (fun _ st_59 => (if level = (-1) then (bnd (f_Pa_commas E S F st_59 (f_Tr_count (sTr st_1)) depth inn) (fun _ st_61 => (some (.inr (0, st_61))))) else (some (.inr (0, st_59))))))))))))))))) else (bnd (f_Pa_object E S F st_1 depth) (fun _ st_62 => (bnd (f_Pa_tails E S F st_62 (f_Tr_count (sTr st_1)) depth 0) (fun _ st_63 => (if 10 < level then (if 0 < level then (if level = (-1) then (bnd (f_Pa_commas E S F st_63 (f_Tr_count (sTr st_1)) depth inn) (fun _ st_67 => (some (.inr (0, st_67))))) else (some (.inr (0, st_63)))) else (bnd (f_Pa_conditional E S F st_63 (f_Tr_count (sTr st_1)) depth inn) (fun _ st_68 => (bnd (f_Pa_assignment E S F st_68 (f_Tr_count (sTr st_1)) depth inn) (fun _ st_69 => (if level = (-1) then (bnd (f_Pa_commas E S F st_69 (f_Tr_count (sTr st_1)) depth inn) (fun _ st_71 => (some (.inr (0, st_71))))) else (some (.inr (0, st_69))))))))) else (bnd (f_Pa_binaries E S F st_63 (f_Tr_count (sTr st_1)) (if level < 1 then 1 else level) depth inn) (fun _ st_72 => (if 0 < level then (if level = (-1) then (bnd (f_Pa_commas E S F st_72 (f_Tr_count (sTr st_1)) depth inn) (fun _ st_75 => (some (.inr (0, st_75))))) else (some (.inr (0, st_72)))) else (bnd (f_Pa_conditional E S F st_72 (f_Tr_count (sTr st_1)) depth inn) (fun _ st_76 => (bnd (f_Pa_assignment E S F st_76 (f_Tr_count (sTr st_1)) depth inn) (fun _ st_77 => (if level = (-1) then (bnd (f_Pa_commas E S F st_77 (f_Tr_count (sTr st_1)) depth inn) (fun _ st_79 => (some (.inr (0, st_79))))) else (some (.inr (0, st_77))))))))))))))))) else (bnd (f_Pa_array E S F st_1 depth) (fun _ st_80 => (bnd (f_Pa_tails E S F st_80 (f_Tr_count (sTr st_1)) depth 0) (fun _ st_81 => (if 10 < level then (if 0 < level then (if level = (-1) then (bnd (f_Pa_commas E S F st_81 (f_Tr_count (sTr st_1)) depth inn) (fun _ st_85 => (some (.inr (0, st_85))))) else (some (.inr (0, st_81)))) else (bnd (f_Pa_conditional E S F st_81 (f_Tr_count (sTr st_1)) depth inn) (fun _ st_86 => (bnd (f_Pa_assignment E S F st_86 (f_Tr_count (sTr st_1)) depth inn) (fun _ st_87 => (if level = (-1) then (bnd (f_Pa_commas E S F st_87 (f_Tr_count (sTr st_1)) depth inn) (fun _ st_89 => (some (.inr (0, st_89))))) else (some (.inr (0, st_87))))))))) else (bnd (f_Pa_binaries E S F st_81 (f_Tr_count (sTr st_1)) (if level < 1 then 1 else level) depth inn) (fun _ st_90 => (if 0 < level then (if level = (-1) then (bnd (f_Pa_commas E S F st_90 (f_Tr_count (sTr st_1)) depth inn) (fun _ st_93 => (some (.inr (0, st_93))))) else (some (.inr (0, st_90)))) else (bnd (f_Pa_conditional E S F st_90 (f_Tr_count (sTr st_1)) depth inn) (fun _ st_94 => (bnd (f_Pa_assignment E S F st_94 (f_Tr_count (sTr st_1)) depth inn) (fun _ st_95 => (if level = (-1) then (bnd (f_Pa_commas E S F st_95 (f_Tr_count (sTr st_1)) depth inn) (fun _ st_97 => (some (.inr (0, st_97))))) else (some (.inr (0, st_95))))))))))))))))) else (bnd (f_Pa_group E S F st_1 depth) (fun _ st_98 => (bnd (f_Pa_tails E S F st_98 (f_Tr_count (sTr st_1)) depth 0) (fun _ st_99 => (if 10 < level then (if 0 < level then (if level = (-1) then (bnd (f_Pa_commas E S F st_99 (f_Tr_count (sTr st_1)) depth inn) (fun _ st_103 => (some (.inr (0, st_103))))) else (some (.inr (0, st_99)))) else (bnd (f_Pa_conditional E S F st_99 (f_Tr_count (sTr st_1)) depth inn) (fun _ st_104 => (bnd (f_Pa_assignment E S F st_104 (f_Tr_count (sTr st_1)) depth inn) (fun _ st_105 => (if level = (-1) then (bnd (f_Pa_commas E S F st_105 (f_Tr_count (sTr st_1)) depth inn) (fun _ st_107 => (some (.inr (0, st_107))))) else (some (.inr (0, st_105))))))))) else (bnd (f_Pa_binaries E S F st_99 (f_Tr_count (sTr st_1)) (if level < 1 then 1 else level) depth inn) (fun _ st_108 => (if 0 < level then (if level = (-1) then (bnd (f_Pa_commas E S F st_108 (f_Tr_count (sTr st_1)) depth inn) (fun _ st_111 => (some (.inr (0, st_111))))) else (some (.inr (0, st_108)))) else (bnd (f_Pa_conditional E S F st_108 (f_Tr_count (sTr st_1)) depth inn) (fun _ st_112 => (bnd (f_Pa_assignment E S F st_112 (f_Tr_count (sTr st_1)) depth inn) (fun _ st_113 => (if level = (-1) then (bnd (f_Pa_commas E S F st_113 (f_Tr_count (sTr st_1)) depth inn) (fun _ st_115 => (some (.inr (0, st_115))))) else (some (.inr (0, st_113))))))))))))))))) else (if (f_Pa_prefixOperator st_1) = (-1) then (if (f_Cu_atSign st_1 60) = 0 then (if (f_Cu_atSign st_1 62) = 0 then (if (f_Cu_atSign st_1 64) = 0 then (if (f_Cu_atWord st_1 11) = 0 then (if (f_Cu_atWord st_1 15) = 0 then (bnd (f_Pa_leaf st_1) (fun _ st_122 => (bnd (f_Pa_tails E S F st_122 (f_Tr_count (sTr st_1)) depth 1) (fun _ st_123 => (if 10 < level then (if 0 < level then (if level = (-1) then (bnd (f_Pa_commas E S F st_123 (f_Tr_count (sTr st_1)) depth inn) (fun _ st_127 => (some (.inr (0, st_127))))) else (some (.inr (0, st_123)))) else (bnd (f_Pa_conditional E S F st_123 (f_Tr_count (sTr st_1)) depth inn) (fun _ st_128 => (bnd (f_Pa_assignment E S F st_128 (f_Tr_count (sTr st_1)) depth inn) (fun _ st_129 => (if level = (-1) then (bnd (f_Pa_commas E S F st_129 (f_Tr_count (sTr st_1)) depth inn) (fun _ st_131 => (some (.inr (0, st_131))))) else (some (.inr (0, st_129))))))))) else (bnd (f_Pa_binaries E S F st_123 (f_Tr_count (sTr st_1)) (if level < 1 then 1 else level) depth inn) (fun _ st_132 => (if 0 < level then (if level = (-1) then (bnd (f_Pa_commas E S F st_132 (f_Tr_count (sTr st_1)) depth inn) (fun _ st_135 => (some (.inr (0, st_135))))) else (some (.inr (0, st_132)))) else (bnd (f_Pa_conditional E S F st_132 (f_Tr_count (sTr st_1)) depth inn) (fun _ st_136 => (bnd (f_Pa_assignment E S F st_136 (f_Tr_count (sTr st_1)) depth inn) (fun _ st_137 => (if level = (-1) then (bnd (f_Pa_commas E S F st_137 (f_Tr_count (sTr st_1)) depth inn) (fun _ st_139 => (some (.inr (0, st_139))))) else (some (.inr (0, st_137)))))))))))))))) else (bnd (f_Pa_construction E S F st_1 depth) (fun _ st_140 => (bnd (f_Pa_tails E S F st_140 (f_Tr_count (sTr st_1)) depth 1) (fun _ st_141 => (if 10 < level then (if 0 < level then (if level = (-1) then (bnd (f_Pa_commas E S F st_141 (f_Tr_count (sTr st_1)) depth inn) (fun _ st_145 => (some (.inr (0, st_145))))) else (some (.inr (0, st_141)))) else (bnd (f_Pa_conditional E S F st_141 (f_Tr_count (sTr st_1)) depth inn) (fun _ st_146 => (bnd (f_Pa_assignment E S F st_146 (f_Tr_count (sTr st_1)) depth inn) (fun _ st_147 => (if level = (-1) then (bnd (f_Pa_commas E S F st_147 (f_Tr_count (sTr st_1)) depth inn) (fun _ st_149 => (some (.inr (0, st_149))))) else (some (.inr (0, st_147))))))))) else (bnd (f_Pa_binaries E S F st_141 (f_Tr_count (sTr st_1)) (if level < 1 then 1 else level) depth inn) (fun _ st_150 => (if 0 < level then (if level = (-1) then (bnd (f_Pa_commas E S F st_150 (f_Tr_count (sTr st_1)) depth inn) (fun _ st_153 => (some (.inr (0, st_153))))) else (some (.inr (0, st_150)))) else (bnd (f_Pa_conditional E S F st_150 (f_Tr_count (sTr st_1)) depth inn) (fun _ st_154 => (bnd (f_Pa_assignment E S F st_154 (f_Tr_count (sTr st_1)) depth inn) (fun _ st_155 => (if level = (-1) then (bnd (f_Pa_commas E S F st_155 (f_Tr_count (sTr st_1)) depth inn) (fun _ st_157 => (some (.inr (0, st_157))))) else (some (.inr (0, st_155))))))))))))))))) else (bnd (F 50 depth st_1) (fun _ st_158 => (bnd (f_Pa_tails E S F st_158 (f_Tr_count (sTr st_1)) depth 1) (fun _ st_159 => (if 10 < level then (if 0 < level then (if level = (-1) then (bnd (f_Pa_commas E S F st_159 (f_Tr_count (sTr st_1)) depth inn) (fun _ st_163 => (some (.inr (0, st_163))))) else (some (.inr (0, st_159)))) else (bnd (f_Pa_conditional E S F st_159 (f_Tr_count (sTr st_1)) depth inn) (fun _ st_164 => (bnd (f_Pa_assignment E S F st_164 (f_Tr_count (sTr st_1)) depth inn) (fun _ st_165 => (if level = (-1) then (bnd (f_Pa_commas E S F st_165 (f_Tr_count (sTr st_1)) depth inn) (fun _ st_167 => (some (.inr (0, st_167))))) else (some (.inr (0, st_165))))))))) else (bnd (f_Pa_binaries E S F st_159 (f_Tr_count (sTr st_1)) (if level < 1 then 1 else level) depth inn) (fun _ st_168 => (if 0 < level then (if level = (-1) then (bnd (f_Pa_commas E S F st_168 (f_Tr_count (sTr st_1)) depth inn) (fun _ st_171 => (some (.inr (0, st_171))))) else (some (.inr (0, st_168)))) else (bnd (f_Pa_conditional E S F st_168 (f_Tr_count (sTr st_1)) depth inn) (fun _ st_172 => (bnd (f_Pa_assignment E S F st_172 (f_Tr_count (sTr st_1)) depth inn) (fun _ st_173 => (if level = (-1) then (bnd (f_Pa_commas E S F st_173 (f_Tr_count (sTr st_1)) depth inn) (fun _ st_175 => (some (.inr (0, st_175))))) else (some (.inr (0, st_173))))))))))))))))) else (bnd (f_Pa_object E S F st_1 depth) (fun _ st_176 => (bnd (f_Pa_tails E S F st_176 (f_Tr_count (sTr st_1)) depth 1) (fun _ st_177 => (if 10 < level then (if 0 < level then (if level = (-1) then (bnd (f_Pa_commas E S F st_177 (f_Tr_count (sTr st_1)) depth inn) (fun _ st_181 => (some (.inr (0, st_181))))) else (some (.inr (0, st_177)))) else (bnd (f_Pa_conditional E S F st_177 (f_Tr_count (sTr st_1)) depth inn) (fun _ st_182 => (bnd (f_Pa_assignment E S F st_182 (f_Tr_count (sTr st_1)) depth inn) (fun _ st_183 => (if level = (-1) then (bnd (f_Pa_commas E S F st_183 (f_Tr_count (sTr st_1)) depth inn) (fun _ st_185 => (some (.inr (0, st_185))))) else (some (.inr (0, st_183))))))))) else (bnd (f_Pa_binaries E S F st_177 (f_Tr_count (sTr st_1)) (if level < 1 then 1 else level) depth inn) (fun _ st_186 => (if 0 < level then (if level = (-1) then (bnd (f_Pa_commas E S F st_186 (f_Tr_count (sTr st_1)) depth inn) (fun _ st_189 => (some (.inr (0, st_189))))) else (some (.inr (0, st_186)))) else (bnd (f_Pa_conditional E S F st_186 (f_Tr_count (sTr st_1)) depth inn) (fun _ st_190 => (bnd (f_Pa_assignment E S F st_190 (f_Tr_count (sTr st_1)) depth inn) (fun _ st_191 => (if level = (-1) then (bnd (f_Pa_commas E S F st_191 (f_Tr_count (sTr st_1)) depth inn) (fun _ st_193 => (some (.inr (0, st_193))))) else (some (.inr (0, st_191))))))))))))))))) else (bnd (f_Pa_array E S F st_1 depth) (fun _ st_194 => (bnd (f_Pa_tails E S F st_194 (f_Tr_count (sTr st_1)) depth 1) (fun _ st_195 => (if 10 < level then (if 0 < level then (if level = (-1) then (bnd (f_Pa_commas E S F st_195 (f_Tr_count (sTr st_1)) depth inn) (fun _ st_199 => (some (.inr (0, st_199))))) else (some (.inr (0, st_195)))) else (bnd (f_Pa_conditional E S F st_195 (f_Tr_count (sTr st_1)) depth inn) (fun _ st_200 => (bnd (f_Pa_assignment E S F st_200 (f_Tr_count (sTr st_1)) depth inn) (fun _ st_201 => (if level = (-1) then (bnd (f_Pa_commas E S F st_201 (f_Tr_count (sTr st_1)) depth inn) (fun _ st_203 => (some (.inr (0, st_203))))) else (some (.inr (0, st_201))))))))) else (bnd (f_Pa_binaries E S F st_195 (f_Tr_count (sTr st_1)) (if level < 1 then 1 else level) depth inn) (fun _ st_204 => (if 0 < level then (if level = (-1) then (bnd (f_Pa_commas E S F st_204 (f_Tr_count (sTr st_1)) depth inn) (fun _ st_207 => (some (.inr (0, st_207))))) else (some (.inr (0, st_204)))) else (bnd (f_Pa_conditional E S F st_204 (f_Tr_count (sTr st_1)) depth inn) (fun _ st_208 => (bnd (f_Pa_assignment E S F st_208 (f_Tr_count (sTr st_1)) depth inn) (fun _ st_209 => (if level = (-1) then (bnd (f_Pa_commas E S F st_209 (f_Tr_count (sTr st_1)) depth inn) (fun _ st_211 => (some (.inr (0, st_211))))) else (some (.inr (0, st_209))))))))))))))))) else (bnd (f_Pa_group E S F st_1 depth) (fun _ st_212 => (bnd (f_Pa_tails E S F st_212 (f_Tr_count (sTr st_1)) depth 1) (fun _ st_213 => (if 10 < level then (if 0 < level then (if level = (-1) then (bnd (f_Pa_commas E S F st_213 (f_Tr_count (sTr st_1)) depth inn) (fun _ st_217 => (some (.inr (0, st_217))))) else (some (.inr (0, st_213)))) else (bnd (f_Pa_conditional E S F st_213 (f_Tr_count (sTr st_1)) depth inn) (fun _ st_218 => (bnd (f_Pa_assignment E S F st_218 (f_Tr_count (sTr st_1)) depth inn) (fun _ st_219 => (if level = (-1) then (bnd (f_Pa_commas E S F st_219 (f_Tr_count (sTr st_1)) depth inn) (fun _ st_221 => (some (.inr (0, st_221))))) else (some (.inr (0, st_219))))))))) else (bnd (f_Pa_binaries E S F st_213 (f_Tr_count (sTr st_1)) (if level < 1 then 1 else level) depth inn) (fun _ st_222 => (if 0 < level then (if level = (-1) then (bnd (f_Pa_commas E S F st_222 (f_Tr_count (sTr st_1)) depth inn) (fun _ st_225 => (some (.inr (0, st_225))))) else (some (.inr (0, st_222)))) else (bnd (f_Pa_conditional E S F st_222 (f_Tr_count (sTr st_1)) depth inn) (fun _ st_226 => (bnd (f_Pa_assignment E S F st_226 (f_Tr_count (sTr st_1)) depth inn) (fun _ st_227 => (if level = (-1) then (bnd (f_Pa_commas E S F st_227 (f_Tr_count (sTr st_1)) depth inn) (fun _ st_229 => (some (.inr (0, st_229))))) else (some (.inr (0, st_227))))))))))))))))) else (bnd (f_Pa_prefix E S F st_1 (f_Pa_prefixOperator st_1) depth) (fun _ st_230 => (if 10 < level then (if 0 < level then (if level = (-1) then (bnd (f_Pa_commas E S F st_230 (f_Tr_count (sTr st_1)) depth inn) (fun _ st_234 => (some (.inr (0, st_234))))) else (some (.inr (0, st_230)))) else (bnd (f_Pa_conditional E S F st_230 (f_Tr_count (sTr st_1)) depth inn) (fun _ st_235 => (bnd (f_Pa_assignment E S F st_235 (f_Tr_count (sTr st_1)) depth inn) (fun _ st_236 => (if level = (-1) then (bnd (f_Pa_commas E S F st_236 (f_Tr_count (sTr st_1)) depth inn) (fun _ st_238 => (some (.inr (0, st_238))))) else (some (.inr (0, st_236))))))))) else (bnd (f_Pa_binaries E S F st_230 (f_Tr_count (sTr st_1)) (if level < 1 then 1 else level) depth inn) (fun _ st_239 => (if 0 < level then (if level = (-1) then (bnd (f_Pa_commas E S F st_239 (f_Tr_count (sTr st_1)) depth inn) (fun _ st_242 => (some (.inr (0, st_242))))) else (some (.inr (0, st_239)))) else (bnd (f_Pa_conditional E S F st_239 (f_Tr_count (sTr st_1)) depth inn) (fun _ st_243 => (bnd (f_Pa_assignment E S F st_243 (f_Tr_count (sTr st_1)) depth inn) (fun _ st_244 => (if level = (-1) then (bnd (f_Pa_commas E S F st_244 (f_Tr_count (sTr st_1)) depth inn) (fun _ st_246 => (some (.inr (0, st_246))))) else (some (.inr (0, st_244))))))))))))))))))
set_option maxRecDepth 100000 in
set_option maxHeartbeats 4000000 in
theorem m_Pa_expression (l : Launch) (hlt : l.stackTraces = false) (dC : Nat → ClassId) (dI : Nat → Nat → Nat) (cI cZ : ClassId) (sa rk hp h a1 a2 a3 a4 ht hq n1 n2 : Nat) (fr0 lo0 : Nat) (E : Int32 → Int32 → Int32 → ST → Rz) (S : Int32 → Int32 → ST → Rz) (F : Int32 → Int32 → ST → Rz) (hRE : ∀ (hc : Nat) (ad : AD) (st : ST), okSt st → ∀ (sz : Nat) (level depth inn : Int32), E level depth inn st ≠ none → cPv l y_Pa_expression c_Pa_expression 6 fr0 lo0 (dC, dI) cI cZ sa rk hp hc h a1 a2 a3 a4 ht hq n1 n2 ad st sz [.ref hp, .int level, .int depth, .int inn] (E level depth inn st)) (hRS : ∀ (hc : Nat) (ad : AD) (st : ST), okSt st → ∀ (sz : Nat) (depth first : Int32), S depth first st ≠ none → cPv l y_Pa_statement c_Pa_statement 4 fr0 lo0 (dC, dI) cI cZ sa rk hp hc h a1 a2 a3 a4 ht hq n1 n2 ad st sz [.ref hp, .int depth, .int first] (S depth first st)) (hRF : ∀ (hc : Nat) (ad : AD) (st : ST), okSt st → ∀ (sz : Nat) (form depth : Int32), F form depth st ≠ none → cPv l y_Pa_function c_Pa_function 10 fr0 lo0 (dC, dI) cI cZ sa rk hp hc h a1 a2 a3 a4 ht hq n1 n2 ad st sz [.ref hp, .int form, .int depth] (F form depth st)) (hc : Nat) (ad : AD) (st : ST) (hst : okSt st) (sz : Nat) (level : Int32) (depth : Int32) (inn : Int32) (hg : f_Pa_expression E S F st level depth inn ≠ none) : cPv l y_Pa_expression c_Pa_expression 6 (fr0 + 10) (lo0 + 374) (dC, dI) cI cZ sa rk hp hc h a1 a2 a3 a4 ht hq n1 n2 ad st sz [.ref hp, .int level, .int depth, .int inn] (f_Pa_expression E S F st level depth inn) := by
  refine vx_ofW (cc := c_Pa_expression) (maxL := 6) (ret := none) (by decide) rfl ?_
  intro p e s m args below meth c s₁ B hml hnt hv
  obtain ⟨rfl, hsz, hP, hK, hD0, hC, hZ⟩ := hv
  have hx := B.exec
  have hb := B.bytes
  have hr := B.returns
  have hts0 := atoms_spec (ws := wy y_Pa_expression c_Pa_expression 6 none) B.pre
  have hts := htsL hts0
  have hown : s.vm.findClass R_Pa = some m.cls := findClass_of_methodNamed B.named
  have hlocks := B.notSynchronized
  subst hsz
  have hD := hD0.self (sz := s.heap.size)
  generalize hAe : va_A (wQ cI cZ hp hc h a1 a2 a3 a4 ht hq n1 n2 (ad, st)) s.heap.size = A at hD hZ ⊢
  have hA : ∀ q : Nat, s.heap.size ≤ q → A q := fun q h => by rw [← hAe]; exact Or.inr h
  have hS : va_S A s.heap s.heap [] := va_S.rf
  have hcl : 0 + bC st ≤ bC st := Nat.le_of_eq (Nat.zero_add _)
  have hsl : 0 + bS st ≤ bS st := Nat.le_of_eq (Nat.zero_add _)
  have hl := lv_entry ([.ref hp, .int level, .int depth, .int inn]) (n := 6) (Nat.le_of_ble_eq_true rfl)
  rw [lg_entry_eq]
  generalize (lg_sl ([.ref hp, .int level, .int depth, .int inn]) ++ List.replicate (6 - (lg_sl ([.ref hp, .int level, .int depth, .int inn])).length) Slot.unset).toArray = ls at hl ⊢
  have hl : lv_has ls 6 [(0, .ref hp), (1, .int level), (2, .int depth), (3, .int inn)] := hl
  refine lv_aload_n hx hb d_Pa_expression_0 rfl (lv_at hl 0 rfl) ?_
  refine lv_iload_n hx hb d_Pa_expression_1 rfl (lv_at hl 2 rfl) ?_
  refine mx_Uv (xm := ⟨"SyntaxTree$Parser", "guard", "(I)V"⟩) (owner := R_Cu) (As := [.int depth]) (rest := []) ⟨hx, hb, hml, hown, hts0⟩ (m_Cu_guard l hlt dC dI cI cZ sa rk hp hc h a1 a2 a3 a4 ht hq n1 n2 ad st hst _ depth (fun z => hg (by unfold f_Pa_expression; rw [bnd_n z]))) hP hD hK hS hA hC hZ hnt hlocks L_453 L_454 L_456 L_457 L_86 L_458 rfl k_Cu_guard ⟨(by show _ ≤ fr0 + 10; omega), (by show _ ≤ lo0 + 374; omega)⟩ rfl rfl hl.1 (Nat.le_of_ble_eq_true rfl) d_Pa_expression_2 rfl (fun q z => by unfold f_Pa_expression; rw [bnd_l z]) hcl hsl (fun ad_1 st_1 H locs w_1 ok_1 e1_1 e2_1 hP hD hS => ?_)
  have hcl := cl_next hcl e1_1
  have hsl := cl_next hsl e2_1
  refine lv_aload_n hx hb d_Pa_expression_5 rfl (lv_at hl 0 rfl) ?_
  refine va_get (D := (dC, dI)) (ci := 2) (v := .ref ht) (C := R_Pa) (T := T_Pa) (N := 7) hx hb hts u_Pa hown hK hP 0 rfl rfl 0 (by decide) (hts _ L_208) (fun _ h9 => h9) rfl d_Pa_expression_6 ?_
  refine rd_V (v := (f_Tr_count (sTr st_1))) (As := []) (rest := []) ⟨hx, hb, hml, hown, hts0⟩ (m_Tr_count l dC dI cI cZ ht ad_1.1 ad_1.2.1 ad_1.2.2.1 ad_1.2.2.2 (sTr st_1) ok_1.2.1 ) hP hK [7, 8, 9, 10, 11] rfl [0, 1] rfl 0 4 rfl rfl L_520 L_521 L_522 L_85 L_523 ⟨rfl, k_Tr_count⟩ ⟨(by show _ ≤ fr0 + 10; omega), (by show _ ≤ lo0 + 374; omega)⟩ hl.1 ⟨Nat.le_trans (Nat.le_add_right _ _) hcl, Nat.le_trans (Nat.le_add_right _ _) hsl⟩ (Nat.le_of_ble_eq_true rfl) d_Pa_expression_9 rfl ?_
  refine lv_istore (lv' := [(4, .int (f_Tr_count (sTr st_1))), (0, .ref hp), (1, .int level), (2, .int depth), (3, .int inn)]) hx hb d_Pa_expression_12 hl (by decide) rfl (fun ls hl => ?_)
  refine lv_iload_n hx hb d_Pa_expression_14 rfl (lv_at hl 2 rfl) ?_
  refine lv_bipush (v := 12) hx hb d_Pa_expression_15 (by decide) ?_
  refine lv_icmp_ge (tgt := 27) hx hb d_Pa_expression_17 (by decide) (fun c_2 => ?_) (fun c_2 => ?_)
  · refine lv_iconst (v := (-1)) hx hb d_Pa_expression_27 (by decide) ?_
    refine lv_istore (lv' := [(5, .int (-1)), (4, .int (f_Tr_count (sTr st_1))), (0, .ref hp), (1, .int level), (2, .int depth), (3, .int inn)]) hx hb d_Pa_expression_28 hl (by decide) rfl (fun ls hl => ?_)
    refine lv_iload hx hb d_Pa_expression_30 (lv_at hl 0 rfl) ?_
    refine lv_iconst (v := (-1)) hx hb d_Pa_expression_32 (by decide) ?_
    refine lv_icmp_eq (tgt := 46) hx hb d_Pa_expression_33 (by decide) (fun _ => ?_) (fun q9 => absurd q9 (by decide))
    refine lv_aload_n hx hb d_Pa_expression_46 rfl (lv_at hl 2 rfl) ?_
    refine lv_bipush (v := 60) hx hb d_Pa_expression_47 (by decide) ?_
    refine rd_U (xm := ⟨"SyntaxTree$Parser", "atSign", "(I)Z"⟩) (owner := R_Cu) (v := (f_Cu_atSign st_1 60)) (As := [.int 60]) (rest := []) ⟨hx, hb, hml, hown, hts0⟩ (m_Cu_atSign l dC dI cI cZ hp hc h a1 a2 a3 a4 ht ad_1.1 ad_1.2.1 ad_1.2.2.1 ad_1.2.2.2 hq n1 n2 st_1 ok_1 60) hP hK [0, 1, 2, 3, 4, 5, 6, 7, 8, 9, 10, 11, 12, 13, 14] rfl [0, 1] rfl 0 2 rfl rfl L_496 L_497 L_499 L_500 L_86 L_501 rfl k_Cu_atSign ⟨(by show _ ≤ fr0 + 10; omega), (by show _ ≤ lo0 + 374; omega)⟩ hl.1 ⟨Nat.le_trans (Nat.le_add_right _ _) hcl, Nat.le_trans (Nat.le_add_right _ _) hsl⟩ (Nat.le_of_ble_eq_true rfl) d_Pa_expression_49 rfl ?_
    refine lv_if_eq (tgt := 63) hx hb d_Pa_expression_52 (by decide) (fun c_3 => ?_) (fun c_3 => ?_)
    · refine lv_aload_n hx hb d_Pa_expression_63 rfl (lv_at hl 2 rfl) ?_
      refine lv_bipush (v := 62) hx hb d_Pa_expression_64 (by decide) ?_
      refine rd_U (xm := ⟨"SyntaxTree$Parser", "atSign", "(I)Z"⟩) (owner := R_Cu) (v := (f_Cu_atSign st_1 62)) (As := [.int 62]) (rest := []) ⟨hx, hb, hml, hown, hts0⟩ (m_Cu_atSign l dC dI cI cZ hp hc h a1 a2 a3 a4 ht ad_1.1 ad_1.2.1 ad_1.2.2.1 ad_1.2.2.2 hq n1 n2 st_1 ok_1 62) hP hK [0, 1, 2, 3, 4, 5, 6, 7, 8, 9, 10, 11, 12, 13, 14] rfl [0, 1] rfl 0 2 rfl rfl L_496 L_497 L_499 L_500 L_86 L_501 rfl k_Cu_atSign ⟨(by show _ ≤ fr0 + 10; omega), (by show _ ≤ lo0 + 374; omega)⟩ hl.1 ⟨Nat.le_trans (Nat.le_add_right _ _) hcl, Nat.le_trans (Nat.le_add_right _ _) hsl⟩ (Nat.le_of_ble_eq_true rfl) d_Pa_expression_66 rfl ?_
      refine lv_if_eq (tgt := 80) hx hb d_Pa_expression_69 (by decide) (fun c_4 => ?_) (fun c_4 => ?_)
      · refine lv_aload_n hx hb d_Pa_expression_80 rfl (lv_at hl 2 rfl) ?_
        refine lv_bipush (v := 64) hx hb d_Pa_expression_81 (by decide) ?_
        refine rd_U (xm := ⟨"SyntaxTree$Parser", "atSign", "(I)Z"⟩) (owner := R_Cu) (v := (f_Cu_atSign st_1 64)) (As := [.int 64]) (rest := []) ⟨hx, hb, hml, hown, hts0⟩ (m_Cu_atSign l dC dI cI cZ hp hc h a1 a2 a3 a4 ht ad_1.1 ad_1.2.1 ad_1.2.2.1 ad_1.2.2.2 hq n1 n2 st_1 ok_1 64) hP hK [0, 1, 2, 3, 4, 5, 6, 7, 8, 9, 10, 11, 12, 13, 14] rfl [0, 1] rfl 0 2 rfl rfl L_496 L_497 L_499 L_500 L_86 L_501 rfl k_Cu_atSign ⟨(by show _ ≤ fr0 + 10; omega), (by show _ ≤ lo0 + 374; omega)⟩ hl.1 ⟨Nat.le_trans (Nat.le_add_right _ _) hcl, Nat.le_trans (Nat.le_add_right _ _) hsl⟩ (Nat.le_of_ble_eq_true rfl) d_Pa_expression_83 rfl ?_
        refine lv_if_eq (tgt := 97) hx hb d_Pa_expression_86 (by decide) (fun c_5 => ?_) (fun c_5 => ?_)
        · refine lv_aload_n hx hb d_Pa_expression_97 rfl (lv_at hl 2 rfl) ?_
          refine lv_bipush (v := 11) hx hb d_Pa_expression_98 (by decide) ?_
          refine rd_U (xm := ⟨"SyntaxTree$Parser", "atWord", "(I)Z"⟩) (owner := R_Cu) (v := (f_Cu_atWord st_1 11)) (As := [.int 11]) (rest := []) ⟨hx, hb, hml, hown, hts0⟩ (m_Cu_atWord l dC dI cI cZ hp hc h a1 a2 a3 a4 ht ad_1.1 ad_1.2.1 ad_1.2.2.1 ad_1.2.2.2 hq n1 n2 st_1 ok_1 11) hP hK [0, 1, 2, 3, 4, 5, 6, 7, 8, 9, 10, 11, 12, 13, 14] rfl [0, 1] rfl 0 2 rfl rfl L_439 L_440 L_442 L_443 L_86 L_444 rfl k_Cu_atWord ⟨(by show _ ≤ fr0 + 10; omega), (by show _ ≤ lo0 + 374; omega)⟩ hl.1 ⟨Nat.le_trans (Nat.le_add_right _ _) hcl, Nat.le_trans (Nat.le_add_right _ _) hsl⟩ (Nat.le_of_ble_eq_true rfl) d_Pa_expression_100 rfl ?_
          refine lv_if_eq (tgt := 116) hx hb d_Pa_expression_103 (by decide) (fun c_6 => ?_) (fun c_6 => ?_)
          · refine lv_aload_n hx hb d_Pa_expression_116 rfl (lv_at hl 2 rfl) ?_
            refine lv_bipush (v := 15) hx hb d_Pa_expression_117 (by decide) ?_
            refine rd_U (xm := ⟨"SyntaxTree$Parser", "atWord", "(I)Z"⟩) (owner := R_Cu) (v := (f_Cu_atWord st_1 15)) (As := [.int 15]) (rest := []) ⟨hx, hb, hml, hown, hts0⟩ (m_Cu_atWord l dC dI cI cZ hp hc h a1 a2 a3 a4 ht ad_1.1 ad_1.2.1 ad_1.2.2.1 ad_1.2.2.2 hq n1 n2 st_1 ok_1 15) hP hK [0, 1, 2, 3, 4, 5, 6, 7, 8, 9, 10, 11, 12, 13, 14] rfl [0, 1] rfl 0 2 rfl rfl L_439 L_440 L_442 L_443 L_86 L_444 rfl k_Cu_atWord ⟨(by show _ ≤ fr0 + 10; omega), (by show _ ≤ lo0 + 374; omega)⟩ hl.1 ⟨Nat.le_trans (Nat.le_add_right _ _) hcl, Nat.le_trans (Nat.le_add_right _ _) hsl⟩ (Nat.le_of_ble_eq_true rfl) d_Pa_expression_119 rfl ?_
            refine lv_if_eq (tgt := 133) hx hb d_Pa_expression_122 (by decide) (fun c_7 => ?_) (fun c_7 => ?_)
            · refine lv_aload_n hx hb d_Pa_expression_133 rfl (lv_at hl 2 rfl) ?_
              refine mx_Vv (As := []) (rest := []) ⟨hx, hb, hml, hown, hts0⟩ (m_Pa_leaf l hlt dC dI cI cZ sa rk hp hc h a1 a2 a3 a4 ht hq n1 n2 ad_1 st_1 ok_1 _  (fun z => hg (by unfold f_Pa_expression; rw [bnd_r w_1, if_pos c_2, if_pos c_3, if_pos c_4, if_pos c_5, if_pos c_6, if_pos c_7, bnd_n z]))) hP hD hK hS hA hC hZ hnt hlocks L_643 L_645 L_24 L_87 L_646 k_Pa_leaf ⟨(by show _ ≤ fr0 + 10; omega), (by show _ ≤ lo0 + 374; omega)⟩ rfl rfl hl.1 (Nat.le_of_ble_eq_true rfl) d_Pa_expression_134 rfl (fun q z => by unfold f_Pa_expression; rw [bnd_r w_1, if_pos c_2, if_pos c_3, if_pos c_4, if_pos c_5, if_pos c_6, if_pos c_7, bnd_l z]) hcl hsl (fun ad_8 st_8 H locs w_8 ok_8 e1_8 e2_8 hP hD hS => ?_)
              have hcl := cl_next hcl e1_8
              have hsl := cl_next hsl e2_8
              refine lv_iload hx hb d_Pa_expression_137 (lv_at hl 0 rfl) ?_
              refine lv_iconst (v := (-1)) hx hb d_Pa_expression_139 (by decide) ?_
              refine lv_icmp_ne (tgt := 161) hx hb d_Pa_expression_140 (by decide) (fun q9 => absurd q9 (by decide)) (fun _ => ?_)
              refine lv_aload_n hx hb d_Pa_expression_143 rfl (lv_at hl 2 rfl) ?_
              refine lv_iload hx hb d_Pa_expression_144 (lv_at hl 1 rfl) ?_
              refine lv_iload_n hx hb d_Pa_expression_146 rfl (lv_at hl 4 rfl) ?_
              refine lv_iload_n hx hb d_Pa_expression_147 rfl (lv_at hl 3 rfl) ?_
              refine lv_bipush (v := 12) hx hb d_Pa_expression_148 (by decide) ?_
              refine lv_icmp_ge (tgt := 157) hx hb d_Pa_expression_150 (by decide) (fun _ => ?_) (fun q9 => absurd c_2 q9)
              refine lv_iconst (v := 0) hx hb d_Pa_expression_157 (by decide) ?_
              refine mx_Vv (As := [.int (f_Tr_count (sTr st_1)), .int depth, .int 0]) (rest := []) ⟨hx, hb, hml, hown, hts0⟩ (m_Pa_tails l hlt dC dI cI cZ sa rk hp h a1 a2 a3 a4 ht hq n1 n2 fr0 lo0 E S F hRE hRS hRF hc ad_8 st_8 ok_8 _ (f_Tr_count (sTr st_1)) depth 0 (fun z => hg (by unfold f_Pa_expression; rw [bnd_r w_1, if_pos c_2, if_pos c_3, if_pos c_4, if_pos c_5, if_pos c_6, if_pos c_7, bnd_r w_8, bnd_n z]))) hP hD hK hS hA hC hZ hnt hlocks L_661 L_663 L_27 L_87 L_664 k_Pa_tails ⟨(by show _ ≤ fr0 + 10; omega), (by show _ ≤ lo0 + 374; omega)⟩ rfl rfl hl.1 (Nat.le_of_ble_eq_true rfl) d_Pa_expression_158 rfl (fun q z => by unfold f_Pa_expression; rw [bnd_r w_1, if_pos c_2, if_pos c_3, if_pos c_4, if_pos c_5, if_pos c_6, if_pos c_7, bnd_r w_8, bnd_l z]) hcl hsl (fun ad_9 st_9 H locs w_9 ok_9 e1_9 e2_9 hP hD hS => ?_)
              have hcl := cl_next hcl e1_9
              have hsl := cl_next hsl e2_9
              refine lv_iload_n hx hb d_Pa_expression_161 rfl (lv_at hl 3 rfl) ?_
              refine lv_bipush (v := 10) hx hb d_Pa_expression_162 (by decide) ?_
              refine lv_icmp_gt (tgt := 180) hx hb d_Pa_expression_164 (by decide) (fun c_10 => ?_) (fun c_10 => ?_)
              · refine lv_iload_n hx hb d_Pa_expression_180 rfl (lv_at hl 3 rfl) ?_
                refine lv_if_gt (tgt := 200) hx hb d_Pa_expression_181 (by decide) (fun c_11 => ?_) (fun c_11 => ?_)
                · refine lv_iload_n hx hb d_Pa_expression_200 rfl (lv_at hl 3 rfl) ?_
                  refine lv_iconst (v := (-1)) hx hb d_Pa_expression_201 (by decide) ?_
                  refine lv_icmp_ne (tgt := 213) hx hb d_Pa_expression_202 (by decide) (fun c_12 => ?_) (fun c_12 => ?_)
                  · exact mx_vret (stF := st_9) hx hb hr hlocks hK hP hD hS hcl hsl (by unfold f_Pa_expression; rw [bnd_r w_1, if_pos c_2, if_pos c_3, if_pos c_4, if_pos c_5, if_pos c_6, if_pos c_7, bnd_r w_8, bnd_r w_9, if_pos c_10, if_pos c_11, if_neg c_12]) ok_9 d_Pa_expression_213
                  · refine lv_aload_n hx hb d_Pa_expression_205 rfl (lv_at hl 2 rfl) ?_
                    refine lv_iload hx hb d_Pa_expression_206 (lv_at hl 1 rfl) ?_
                    refine lv_iload_n hx hb d_Pa_expression_208 rfl (lv_at hl 4 rfl) ?_
                    refine lv_iload_n hx hb d_Pa_expression_209 rfl (lv_at hl 5 rfl) ?_
                    refine mx_Vv (As := [.int (f_Tr_count (sTr st_1)), .int depth, .int inn]) (rest := []) ⟨hx, hb, hml, hown, hts0⟩ (m_Pa_commas l hlt dC dI cI cZ sa rk hp h a1 a2 a3 a4 ht hq n1 n2 fr0 lo0 E S F hRE hRS hRF hc ad_9 st_9 ok_9 _ (f_Tr_count (sTr st_1)) depth inn (fun z => hg (by unfold f_Pa_expression; rw [bnd_r w_1, if_pos c_2, if_pos c_3, if_pos c_4, if_pos c_5, if_pos c_6, if_pos c_7, bnd_r w_8, bnd_r w_9, if_pos c_10, if_pos c_11, if_pos c_12, bnd_n z]))) hP hD hK hS hA hC hZ hnt hlocks L_707 L_709 L_33 L_87 L_710 k_Pa_commas ⟨(by show _ ≤ fr0 + 10; omega), (by show _ ≤ lo0 + 374; omega)⟩ rfl rfl hl.1 (Nat.le_of_ble_eq_true rfl) d_Pa_expression_210 rfl (fun q z => by unfold f_Pa_expression; rw [bnd_r w_1, if_pos c_2, if_pos c_3, if_pos c_4, if_pos c_5, if_pos c_6, if_pos c_7, bnd_r w_8, bnd_r w_9, if_pos c_10, if_pos c_11, if_pos c_12, bnd_l z]) hcl hsl (fun ad_13 st_13 H locs w_13 ok_13 e1_13 e2_13 hP hD hS => ?_)
                    have hcl := cl_next hcl e1_13
                    have hsl := cl_next hsl e2_13
                    exact mx_vret (stF := st_13) hx hb hr hlocks hK hP hD hS hcl hsl (by unfold f_Pa_expression; rw [bnd_r w_1, if_pos c_2, if_pos c_3, if_pos c_4, if_pos c_5, if_pos c_6, if_pos c_7, bnd_r w_8, bnd_r w_9, if_pos c_10, if_pos c_11, if_pos c_12, bnd_r w_13]) ok_13 d_Pa_expression_213
                · refine lv_aload_n hx hb d_Pa_expression_184 rfl (lv_at hl 2 rfl) ?_
                  refine lv_iload hx hb d_Pa_expression_185 (lv_at hl 1 rfl) ?_
                  refine lv_iload_n hx hb d_Pa_expression_187 rfl (lv_at hl 4 rfl) ?_
                  refine lv_iload_n hx hb d_Pa_expression_188 rfl (lv_at hl 5 rfl) ?_
                  refine mx_Vv (As := [.int (f_Tr_count (sTr st_1)), .int depth, .int inn]) (rest := []) ⟨hx, hb, hml, hown, hts0⟩ (m_Pa_conditional l hlt dC dI cI cZ sa rk hp h a1 a2 a3 a4 ht hq n1 n2 fr0 lo0 E S F hRE hRS hRF hc ad_9 st_9 ok_9 _ (f_Tr_count (sTr st_1)) depth inn (fun z => hg (by unfold f_Pa_expression; rw [bnd_r w_1, if_pos c_2, if_pos c_3, if_pos c_4, if_pos c_5, if_pos c_6, if_pos c_7, bnd_r w_8, bnd_r w_9, if_pos c_10, if_neg c_11, bnd_n z]))) hP hD hK hS hA hC hZ hnt hlocks L_699 L_701 L_31 L_87 L_702 k_Pa_conditional ⟨(by show _ ≤ fr0 + 10; omega), (by show _ ≤ lo0 + 374; omega)⟩ rfl rfl hl.1 (Nat.le_of_ble_eq_true rfl) d_Pa_expression_189 rfl (fun q z => by unfold f_Pa_expression; rw [bnd_r w_1, if_pos c_2, if_pos c_3, if_pos c_4, if_pos c_5, if_pos c_6, if_pos c_7, bnd_r w_8, bnd_r w_9, if_pos c_10, if_neg c_11, bnd_l z]) hcl hsl (fun ad_14 st_14 H locs w_14 ok_14 e1_14 e2_14 hP hD hS => ?_)
                  have hcl := cl_next hcl e1_14
                  have hsl := cl_next hsl e2_14
                  refine lv_aload_n hx hb d_Pa_expression_192 rfl (lv_at hl 2 rfl) ?_
                  refine lv_iload hx hb d_Pa_expression_193 (lv_at hl 1 rfl) ?_
                  refine lv_iload_n hx hb d_Pa_expression_195 rfl (lv_at hl 4 rfl) ?_
                  refine lv_iload_n hx hb d_Pa_expression_196 rfl (lv_at hl 5 rfl) ?_
                  refine mx_Vv (As := [.int (f_Tr_count (sTr st_1)), .int depth, .int inn]) (rest := []) ⟨hx, hb, hml, hown, hts0⟩ (m_Pa_assignment l hlt dC dI cI cZ sa rk hp h a1 a2 a3 a4 ht hq n1 n2 fr0 lo0 E S F hRE hRS hRF hc ad_14 st_14 ok_14 _ (f_Tr_count (sTr st_1)) depth inn (fun z => hg (by unfold f_Pa_expression; rw [bnd_r w_1, if_pos c_2, if_pos c_3, if_pos c_4, if_pos c_5, if_pos c_6, if_pos c_7, bnd_r w_8, bnd_r w_9, if_pos c_10, if_neg c_11, bnd_r w_14, bnd_n z]))) hP hD hK hS hA hC hZ hnt hlocks L_703 L_705 L_32 L_87 L_706 k_Pa_assignment ⟨(by show _ ≤ fr0 + 10; omega), (by show _ ≤ lo0 + 374; omega)⟩ rfl rfl hl.1 (Nat.le_of_ble_eq_true rfl) d_Pa_expression_197 rfl (fun q z => by unfold f_Pa_expression; rw [bnd_r w_1, if_pos c_2, if_pos c_3, if_pos c_4, if_pos c_5, if_pos c_6, if_pos c_7, bnd_r w_8, bnd_r w_9, if_pos c_10, if_neg c_11, bnd_r w_14, bnd_l z]) hcl hsl (fun ad_15 st_15 H locs w_15 ok_15 e1_15 e2_15 hP hD hS => ?_)
                  have hcl := cl_next hcl e1_15
                  have hsl := cl_next hsl e2_15
                  refine lv_iload_n hx hb d_Pa_expression_200 rfl (lv_at hl 3 rfl) ?_
                  refine lv_iconst (v := (-1)) hx hb d_Pa_expression_201 (by decide) ?_
                  refine lv_icmp_ne (tgt := 213) hx hb d_Pa_expression_202 (by decide) (fun c_16 => ?_) (fun c_16 => ?_)
                  · exact mx_vret (stF := st_15) hx hb hr hlocks hK hP hD hS hcl hsl (by unfold f_Pa_expression; rw [bnd_r w_1, if_pos c_2, if_pos c_3, if_pos c_4, if_pos c_5, if_pos c_6, if_pos c_7, bnd_r w_8, bnd_r w_9, if_pos c_10, if_neg c_11, bnd_r w_14, bnd_r w_15, if_neg c_16]) ok_15 d_Pa_expression_213
                  · refine lv_aload_n hx hb d_Pa_expression_205 rfl (lv_at hl 2 rfl) ?_
                    refine lv_iload hx hb d_Pa_expression_206 (lv_at hl 1 rfl) ?_
                    refine lv_iload_n hx hb d_Pa_expression_208 rfl (lv_at hl 4 rfl) ?_
                    refine lv_iload_n hx hb d_Pa_expression_209 rfl (lv_at hl 5 rfl) ?_
                    refine mx_Vv (As := [.int (f_Tr_count (sTr st_1)), .int depth, .int inn]) (rest := []) ⟨hx, hb, hml, hown, hts0⟩ (m_Pa_commas l hlt dC dI cI cZ sa rk hp h a1 a2 a3 a4 ht hq n1 n2 fr0 lo0 E S F hRE hRS hRF hc ad_15 st_15 ok_15 _ (f_Tr_count (sTr st_1)) depth inn (fun z => hg (by unfold f_Pa_expression; rw [bnd_r w_1, if_pos c_2, if_pos c_3, if_pos c_4, if_pos c_5, if_pos c_6, if_pos c_7, bnd_r w_8, bnd_r w_9, if_pos c_10, if_neg c_11, bnd_r w_14, bnd_r w_15, if_pos c_16, bnd_n z]))) hP hD hK hS hA hC hZ hnt hlocks L_707 L_709 L_33 L_87 L_710 k_Pa_commas ⟨(by show _ ≤ fr0 + 10; omega), (by show _ ≤ lo0 + 374; omega)⟩ rfl rfl hl.1 (Nat.le_of_ble_eq_true rfl) d_Pa_expression_210 rfl (fun q z => by unfold f_Pa_expression; rw [bnd_r w_1, if_pos c_2, if_pos c_3, if_pos c_4, if_pos c_5, if_pos c_6, if_pos c_7, bnd_r w_8, bnd_r w_9, if_pos c_10, if_neg c_11, bnd_r w_14, bnd_r w_15, if_pos c_16, bnd_l z]) hcl hsl (fun ad_17 st_17 H locs w_17 ok_17 e1_17 e2_17 hP hD hS => ?_)
                    have hcl := cl_next hcl e1_17
                    have hsl := cl_next hsl e2_17
                    exact mx_vret (stF := st_17) hx hb hr hlocks hK hP hD hS hcl hsl (by unfold f_Pa_expression; rw [bnd_r w_1, if_pos c_2, if_pos c_3, if_pos c_4, if_pos c_5, if_pos c_6, if_pos c_7, bnd_r w_8, bnd_r w_9, if_pos c_10, if_neg c_11, bnd_r w_14, bnd_r w_15, if_pos c_16, bnd_r w_17]) ok_17 d_Pa_expression_213
              · refine lv_aload_n hx hb d_Pa_expression_167 rfl (lv_at hl 2 rfl) ?_
                refine lv_iload hx hb d_Pa_expression_168 (lv_at hl 1 rfl) ?_
                refine lv_iload_n hx hb d_Pa_expression_170 rfl (lv_at hl 3 rfl) ?_
                refine lv_iconst (v := 1) hx hb d_Pa_expression_171 (by decide) ?_
                refine va_mmax hx hb (hml.trans hl.1.symm) hown (hts _ L_682) (hts _ L_637) (hts _ L_96) (hts _ L_638) (by show _ ≤ fr0 + 10; omega) (Nat.le_trans (m := 21) (Nat.le_of_ble_eq_true rfl) (by show _ ≤ lo0 + 374; omega)) (Nat.le_trans (Nat.le_add_right _ _) hcl) (Nat.le_trans (Nat.le_add_right _ _) hsl) d_Pa_expression_172 ?_
                refine lv_iload_n hx hb d_Pa_expression_175 rfl (lv_at hl 4 rfl) ?_
                refine lv_iload_n hx hb d_Pa_expression_176 rfl (lv_at hl 5 rfl) ?_
                refine mx_Vv (As := [.int (f_Tr_count (sTr st_1)), .int (if level < 1 then 1 else level), .int depth, .int inn]) (rest := []) ⟨hx, hb, hml, hown, hts0⟩ (m_Pa_binaries l hlt dC dI cI cZ sa rk hp h a1 a2 a3 a4 ht hq n1 n2 fr0 lo0 E S F hRE hRS hRF hc ad_9 st_9 ok_9 _ (f_Tr_count (sTr st_1)) (if level < 1 then 1 else level) depth inn (fun z => hg (by unfold f_Pa_expression; rw [bnd_r w_1, if_pos c_2, if_pos c_3, if_pos c_4, if_pos c_5, if_pos c_6, if_pos c_7, bnd_r w_8, bnd_r w_9, if_neg c_10, bnd_n z]))) hP hD hK hS hA hC hZ hnt hlocks L_683 L_685 L_30 L_87 L_686 k_Pa_binaries ⟨(by show _ ≤ fr0 + 10; omega), (by show _ ≤ lo0 + 374; omega)⟩ rfl rfl hl.1 (Nat.le_of_ble_eq_true rfl) d_Pa_expression_177 rfl (fun q z => by unfold f_Pa_expression; rw [bnd_r w_1, if_pos c_2, if_pos c_3, if_pos c_4, if_pos c_5, if_pos c_6, if_pos c_7, bnd_r w_8, bnd_r w_9, if_neg c_10, bnd_l z]) hcl hsl (fun ad_18 st_18 H locs w_18 ok_18 e1_18 e2_18 hP hD hS => ?_)
                have hcl := cl_next hcl e1_18
                have hsl := cl_next hsl e2_18
                refine lv_iload_n hx hb d_Pa_expression_180 rfl (lv_at hl 3 rfl) ?_
                refine lv_if_gt (tgt := 200) hx hb d_Pa_expression_181 (by decide) (fun c_19 => ?_) (fun c_19 => ?_)
                · refine lv_iload_n hx hb d_Pa_expression_200 rfl (lv_at hl 3 rfl) ?_
                  refine lv_iconst (v := (-1)) hx hb d_Pa_expression_201 (by decide) ?_
                  refine lv_icmp_ne (tgt := 213) hx hb d_Pa_expression_202 (by decide) (fun c_20 => ?_) (fun c_20 => ?_)
                  · exact mx_vret (stF := st_18) hx hb hr hlocks hK hP hD hS hcl hsl (by unfold f_Pa_expression; rw [bnd_r w_1, if_pos c_2, if_pos c_3, if_pos c_4, if_pos c_5, if_pos c_6, if_pos c_7, bnd_r w_8, bnd_r w_9, if_neg c_10, bnd_r w_18, if_pos c_19, if_neg c_20]) ok_18 d_Pa_expression_213
                  · refine lv_aload_n hx hb d_Pa_expression_205 rfl (lv_at hl 2 rfl) ?_
                    refine lv_iload hx hb d_Pa_expression_206 (lv_at hl 1 rfl) ?_
                    refine lv_iload_n hx hb d_Pa_expression_208 rfl (lv_at hl 4 rfl) ?_
                    refine lv_iload_n hx hb d_Pa_expression_209 rfl (lv_at hl 5 rfl) ?_
                    refine mx_Vv (As := [.int (f_Tr_count (sTr st_1)), .int depth, .int inn]) (rest := []) ⟨hx, hb, hml, hown, hts0⟩ (m_Pa_commas l hlt dC dI cI cZ sa rk hp h a1 a2 a3 a4 ht hq n1 n2 fr0 lo0 E S F hRE hRS hRF hc ad_18 st_18 ok_18 _ (f_Tr_count (sTr st_1)) depth inn (fun z => hg (by unfold f_Pa_expression; rw [bnd_r w_1, if_pos c_2, if_pos c_3, if_pos c_4, if_pos c_5, if_pos c_6, if_pos c_7, bnd_r w_8, bnd_r w_9, if_neg c_10, bnd_r w_18, if_pos c_19, if_pos c_20, bnd_n z]))) hP hD hK hS hA hC hZ hnt hlocks L_707 L_709 L_33 L_87 L_710 k_Pa_commas ⟨(by show _ ≤ fr0 + 10; omega), (by show _ ≤ lo0 + 374; omega)⟩ rfl rfl hl.1 (Nat.le_of_ble_eq_true rfl) d_Pa_expression_210 rfl (fun q z => by unfold f_Pa_expression; rw [bnd_r w_1, if_pos c_2, if_pos c_3, if_pos c_4, if_pos c_5, if_pos c_6, if_pos c_7, bnd_r w_8, bnd_r w_9, if_neg c_10, bnd_r w_18, if_pos c_19, if_pos c_20, bnd_l z]) hcl hsl (fun ad_21 st_21 H locs w_21 ok_21 e1_21 e2_21 hP hD hS => ?_)
                    have hcl := cl_next hcl e1_21
                    have hsl := cl_next hsl e2_21
                    exact mx_vret (stF := st_21) hx hb hr hlocks hK hP hD hS hcl hsl (by unfold f_Pa_expression; rw [bnd_r w_1, if_pos c_2, if_pos c_3, if_pos c_4, if_pos c_5, if_pos c_6, if_pos c_7, bnd_r w_8, bnd_r w_9, if_neg c_10, bnd_r w_18, if_pos c_19, if_pos c_20, bnd_r w_21]) ok_21 d_Pa_expression_213
                · refine lv_aload_n hx hb d_Pa_expression_184 rfl (lv_at hl 2 rfl) ?_
                  refine lv_iload hx hb d_Pa_expression_185 (lv_at hl 1 rfl) ?_
                  refine lv_iload_n hx hb d_Pa_expression_187 rfl (lv_at hl 4 rfl) ?_
                  refine lv_iload_n hx hb d_Pa_expression_188 rfl (lv_at hl 5 rfl) ?_
                  refine mx_Vv (As := [.int (f_Tr_count (sTr st_1)), .int depth, .int inn]) (rest := []) ⟨hx, hb, hml, hown, hts0⟩ (m_Pa_conditional l hlt dC dI cI cZ sa rk hp h a1 a2 a3 a4 ht hq n1 n2 fr0 lo0 E S F hRE hRS hRF hc ad_18 st_18 ok_18 _ (f_Tr_count (sTr st_1)) depth inn (fun z => hg (by unfold f_Pa_expression; rw [bnd_r w_1, if_pos c_2, if_pos c_3, if_pos c_4, if_pos c_5, if_pos c_6, if_pos c_7, bnd_r w_8, bnd_r w_9, if_neg c_10, bnd_r w_18, if_neg c_19, bnd_n z]))) hP hD hK hS hA hC hZ hnt hlocks L_699 L_701 L_31 L_87 L_702 k_Pa_conditional ⟨(by show _ ≤ fr0 + 10; omega), (by show _ ≤ lo0 + 374; omega)⟩ rfl rfl hl.1 (Nat.le_of_ble_eq_true rfl) d_Pa_expression_189 rfl (fun q z => by unfold f_Pa_expression; rw [bnd_r w_1, if_pos c_2, if_pos c_3, if_pos c_4, if_pos c_5, if_pos c_6, if_pos c_7, bnd_r w_8, bnd_r w_9, if_neg c_10, bnd_r w_18, if_neg c_19, bnd_l z]) hcl hsl (fun ad_22 st_22 H locs w_22 ok_22 e1_22 e2_22 hP hD hS => ?_)
                  have hcl := cl_next hcl e1_22
                  have hsl := cl_next hsl e2_22
                  refine lv_aload_n hx hb d_Pa_expression_192 rfl (lv_at hl 2 rfl) ?_
                  refine lv_iload hx hb d_Pa_expression_193 (lv_at hl 1 rfl) ?_
                  refine lv_iload_n hx hb d_Pa_expression_195 rfl (lv_at hl 4 rfl) ?_
                  refine lv_iload_n hx hb d_Pa_expression_196 rfl (lv_at hl 5 rfl) ?_
                  refine mx_Vv (As := [.int (f_Tr_count (sTr st_1)), .int depth, .int inn]) (rest := []) ⟨hx, hb, hml, hown, hts0⟩ (m_Pa_assignment l hlt dC dI cI cZ sa rk hp h a1 a2 a3 a4 ht hq n1 n2 fr0 lo0 E S F hRE hRS hRF hc ad_22 st_22 ok_22 _ (f_Tr_count (sTr st_1)) depth inn (fun z => hg (by unfold f_Pa_expression; rw [bnd_r w_1, if_pos c_2, if_pos c_3, if_pos c_4, if_pos c_5, if_pos c_6, if_pos c_7, bnd_r w_8, bnd_r w_9, if_neg c_10, bnd_r w_18, if_neg c_19, bnd_r w_22, bnd_n z]))) hP hD hK hS hA hC hZ hnt hlocks L_703 L_705 L_32 L_87 L_706 k_Pa_assignment ⟨(by show _ ≤ fr0 + 10; omega), (by show _ ≤ lo0 + 374; omega)⟩ rfl rfl hl.1 (Nat.le_of_ble_eq_true rfl) d_Pa_expression_197 rfl (fun q z => by unfold f_Pa_expression; rw [bnd_r w_1, if_pos c_2, if_pos c_3, if_pos c_4, if_pos c_5, if_pos c_6, if_pos c_7, bnd_r w_8, bnd_r w_9, if_neg c_10, bnd_r w_18, if_neg c_19, bnd_r w_22, bnd_l z]) hcl hsl (fun ad_23 st_23 H locs w_23 ok_23 e1_23 e2_23 hP hD hS => ?_)
                  have hcl := cl_next hcl e1_23
                  have hsl := cl_next hsl e2_23
                  refine lv_iload_n hx hb d_Pa_expression_200 rfl (lv_at hl 3 rfl) ?_
                  refine lv_iconst (v := (-1)) hx hb d_Pa_expression_201 (by decide) ?_
                  refine lv_icmp_ne (tgt := 213) hx hb d_Pa_expression_202 (by decide) (fun c_24 => ?_) (fun c_24 => ?_)
                  · exact mx_vret (stF := st_23) hx hb hr hlocks hK hP hD hS hcl hsl (by unfold f_Pa_expression; rw [bnd_r w_1, if_pos c_2, if_pos c_3, if_pos c_4, if_pos c_5, if_pos c_6, if_pos c_7, bnd_r w_8, bnd_r w_9, if_neg c_10, bnd_r w_18, if_neg c_19, bnd_r w_22, bnd_r w_23, if_neg c_24]) ok_23 d_Pa_expression_213
                  · refine lv_aload_n hx hb d_Pa_expression_205 rfl (lv_at hl 2 rfl) ?_
                    refine lv_iload hx hb d_Pa_expression_206 (lv_at hl 1 rfl) ?_
                    refine lv_iload_n hx hb d_Pa_expression_208 rfl (lv_at hl 4 rfl) ?_
                    refine lv_iload_n hx hb d_Pa_expression_209 rfl (lv_at hl 5 rfl) ?_
                    refine mx_Vv (As := [.int (f_Tr_count (sTr st_1)), .int depth, .int inn]) (rest := []) ⟨hx, hb, hml, hown, hts0⟩ (m_Pa_commas l hlt dC dI cI cZ sa rk hp h a1 a2 a3 a4 ht hq n1 n2 fr0 lo0 E S F hRE hRS hRF hc ad_23 st_23 ok_23 _ (f_Tr_count (sTr st_1)) depth inn (fun z => hg (by unfold f_Pa_expression; rw [bnd_r w_1, if_pos c_2, if_pos c_3, if_pos c_4, if_pos c_5, if_pos c_6, if_pos c_7, bnd_r w_8, bnd_r w_9, if_neg c_10, bnd_r w_18, if_neg c_19, bnd_r w_22, bnd_r w_23, if_pos c_24, bnd_n z]))) hP hD hK hS hA hC hZ hnt hlocks L_707 L_709 L_33 L_87 L_710 k_Pa_commas ⟨(by show _ ≤ fr0 + 10; omega), (by show _ ≤ lo0 + 374; omega)⟩ rfl rfl hl.1 (Nat.le_of_ble_eq_true rfl) d_Pa_expression_210 rfl (fun q z => by unfold f_Pa_expression; rw [bnd_r w_1, if_pos c_2, if_pos c_3, if_pos c_4, if_pos c_5, if_pos c_6, if_pos c_7, bnd_r w_8, bnd_r w_9, if_neg c_10, bnd_r w_18, if_neg c_19, bnd_r w_22, bnd_r w_23, if_pos c_24, bnd_l z]) hcl hsl (fun ad_25 st_25 H locs w_25 ok_25 e1_25 e2_25 hP hD hS => ?_)
                    have hcl := cl_next hcl e1_25
                    have hsl := cl_next hsl e2_25
                    exact mx_vret (stF := st_25) hx hb hr hlocks hK hP hD hS hcl hsl (by unfold f_Pa_expression; rw [bnd_r w_1, if_pos c_2, if_pos c_3, if_pos c_4, if_pos c_5, if_pos c_6, if_pos c_7, bnd_r w_8, bnd_r w_9, if_neg c_10, bnd_r w_18, if_neg c_19, bnd_r w_22, bnd_r w_23, if_pos c_24, bnd_r w_25]) ok_25 d_Pa_expression_213
            · refine lv_aload_n hx hb d_Pa_expression_125 rfl (lv_at hl 2 rfl) ?_
              refine lv_iload_n hx hb d_Pa_expression_126 rfl (lv_at hl 4 rfl) ?_
              refine mx_Vv (As := [.int depth]) (rest := []) ⟨hx, hb, hml, hown, hts0⟩ (m_Pa_construction l hlt dC dI cI cZ sa rk hp h a1 a2 a3 a4 ht hq n1 n2 fr0 lo0 E S F hRE hRS hRF hc ad_1 st_1 ok_1 _ depth (fun z => hg (by unfold f_Pa_expression; rw [bnd_r w_1, if_pos c_2, if_pos c_3, if_pos c_4, if_pos c_5, if_pos c_6, if_neg c_7, bnd_n z]))) hP hD hK hS hA hC hZ hnt hlocks L_639 L_641 L_23 L_87 L_642 k_Pa_construction ⟨(by show _ ≤ fr0 + 10; omega), (by show _ ≤ lo0 + 374; omega)⟩ rfl rfl hl.1 (Nat.le_of_ble_eq_true rfl) d_Pa_expression_127 rfl (fun q z => by unfold f_Pa_expression; rw [bnd_r w_1, if_pos c_2, if_pos c_3, if_pos c_4, if_pos c_5, if_pos c_6, if_neg c_7, bnd_l z]) hcl hsl (fun ad_26 st_26 H locs w_26 ok_26 e1_26 e2_26 hP hD hS => ?_)
              have hcl := cl_next hcl e1_26
              have hsl := cl_next hsl e2_26
              refine lv_goto (tgt := 137) hx hb d_Pa_expression_130 (by decide) ?_
              refine lv_iload hx hb d_Pa_expression_137 (lv_at hl 0 rfl) ?_
              refine lv_iconst (v := (-1)) hx hb d_Pa_expression_139 (by decide) ?_
              refine lv_icmp_ne (tgt := 161) hx hb d_Pa_expression_140 (by decide) (fun q9 => absurd q9 (by decide)) (fun _ => ?_)
              refine lv_aload_n hx hb d_Pa_expression_143 rfl (lv_at hl 2 rfl) ?_
              refine lv_iload hx hb d_Pa_expression_144 (lv_at hl 1 rfl) ?_
              refine lv_iload_n hx hb d_Pa_expression_146 rfl (lv_at hl 4 rfl) ?_
              refine lv_iload_n hx hb d_Pa_expression_147 rfl (lv_at hl 3 rfl) ?_
              refine lv_bipush (v := 12) hx hb d_Pa_expression_148 (by decide) ?_
              refine lv_icmp_ge (tgt := 157) hx hb d_Pa_expression_150 (by decide) (fun _ => ?_) (fun q9 => absurd c_2 q9)
              refine lv_iconst (v := 0) hx hb d_Pa_expression_157 (by decide) ?_
              refine mx_Vv (As := [.int (f_Tr_count (sTr st_1)), .int depth, .int 0]) (rest := []) ⟨hx, hb, hml, hown, hts0⟩ (m_Pa_tails l hlt dC dI cI cZ sa rk hp h a1 a2 a3 a4 ht hq n1 n2 fr0 lo0 E S F hRE hRS hRF hc ad_26 st_26 ok_26 _ (f_Tr_count (sTr st_1)) depth 0 (fun z => hg (by unfold f_Pa_expression; rw [bnd_r w_1, if_pos c_2, if_pos c_3, if_pos c_4, if_pos c_5, if_pos c_6, if_neg c_7, bnd_r w_26, bnd_n z]))) hP hD hK hS hA hC hZ hnt hlocks L_661 L_663 L_27 L_87 L_664 k_Pa_tails ⟨(by show _ ≤ fr0 + 10; omega), (by show _ ≤ lo0 + 374; omega)⟩ rfl rfl hl.1 (Nat.le_of_ble_eq_true rfl) d_Pa_expression_158 rfl (fun q z => by unfold f_Pa_expression; rw [bnd_r w_1, if_pos c_2, if_pos c_3, if_pos c_4, if_pos c_5, if_pos c_6, if_neg c_7, bnd_r w_26, bnd_l z]) hcl hsl (fun ad_27 st_27 H locs w_27 ok_27 e1_27 e2_27 hP hD hS => ?_)
              have hcl := cl_next hcl e1_27
              have hsl := cl_next hsl e2_27
              refine lv_iload_n hx hb d_Pa_expression_161 rfl (lv_at hl 3 rfl) ?_
              refine lv_bipush (v := 10) hx hb d_Pa_expression_162 (by decide) ?_
              refine lv_icmp_gt (tgt := 180) hx hb d_Pa_expression_164 (by decide) (fun c_28 => ?_) (fun c_28 => ?_)
              · refine lv_iload_n hx hb d_Pa_expression_180 rfl (lv_at hl 3 rfl) ?_
                refine lv_if_gt (tgt := 200) hx hb d_Pa_expression_181 (by decide) (fun c_29 => ?_) (fun c_29 => ?_)
                · refine lv_iload_n hx hb d_Pa_expression_200 rfl (lv_at hl 3 rfl) ?_
                  refine lv_iconst (v := (-1)) hx hb d_Pa_expression_201 (by decide) ?_
                  refine lv_icmp_ne (tgt := 213) hx hb d_Pa_expression_202 (by decide) (fun c_30 => ?_) (fun c_30 => ?_)
                  · exact mx_vret (stF := st_27) hx hb hr hlocks hK hP hD hS hcl hsl (by unfold f_Pa_expression; rw [bnd_r w_1, if_pos c_2, if_pos c_3, if_pos c_4, if_pos c_5, if_pos c_6, if_neg c_7, bnd_r w_26, bnd_r w_27, if_pos c_28, if_pos c_29, if_neg c_30]) ok_27 d_Pa_expression_213
                  · refine lv_aload_n hx hb d_Pa_expression_205 rfl (lv_at hl 2 rfl) ?_
                    refine lv_iload hx hb d_Pa_expression_206 (lv_at hl 1 rfl) ?_
                    refine lv_iload_n hx hb d_Pa_expression_208 rfl (lv_at hl 4 rfl) ?_
                    refine lv_iload_n hx hb d_Pa_expression_209 rfl (lv_at hl 5 rfl) ?_
                    refine mx_Vv (As := [.int (f_Tr_count (sTr st_1)), .int depth, .int inn]) (rest := []) ⟨hx, hb, hml, hown, hts0⟩ (m_Pa_commas l hlt dC dI cI cZ sa rk hp h a1 a2 a3 a4 ht hq n1 n2 fr0 lo0 E S F hRE hRS hRF hc ad_27 st_27 ok_27 _ (f_Tr_count (sTr st_1)) depth inn (fun z => hg (by unfold f_Pa_expression; rw [bnd_r w_1, if_pos c_2, if_pos c_3, if_pos c_4, if_pos c_5, if_pos c_6, if_neg c_7, bnd_r w_26, bnd_r w_27, if_pos c_28, if_pos c_29, if_pos c_30, bnd_n z]))) hP hD hK hS hA hC hZ hnt hlocks L_707 L_709 L_33 L_87 L_710 k_Pa_commas ⟨(by show _ ≤ fr0 + 10; omega), (by show _ ≤ lo0 + 374; omega)⟩ rfl rfl hl.1 (Nat.le_of_ble_eq_true rfl) d_Pa_expression_210 rfl (fun q z => by unfold f_Pa_expression; rw [bnd_r w_1, if_pos c_2, if_pos c_3, if_pos c_4, if_pos c_5, if_pos c_6, if_neg c_7, bnd_r w_26, bnd_r w_27, if_pos c_28, if_pos c_29, if_pos c_30, bnd_l z]) hcl hsl (fun ad_31 st_31 H locs w_31 ok_31 e1_31 e2_31 hP hD hS => ?_)
                    have hcl := cl_next hcl e1_31
                    have hsl := cl_next hsl e2_31
                    exact mx_vret (stF := st_31) hx hb hr hlocks hK hP hD hS hcl hsl (by unfold f_Pa_expression; rw [bnd_r w_1, if_pos c_2, if_pos c_3, if_pos c_4, if_pos c_5, if_pos c_6, if_neg c_7, bnd_r w_26, bnd_r w_27, if_pos c_28, if_pos c_29, if_pos c_30, bnd_r w_31]) ok_31 d_Pa_expression_213
                · refine lv_aload_n hx hb d_Pa_expression_184 rfl (lv_at hl 2 rfl) ?_
                  refine lv_iload hx hb d_Pa_expression_185 (lv_at hl 1 rfl) ?_
                  refine lv_iload_n hx hb d_Pa_expression_187 rfl (lv_at hl 4 rfl) ?_
                  refine lv_iload_n hx hb d_Pa_expression_188 rfl (lv_at hl 5 rfl) ?_
                  refine mx_Vv (As := [.int (f_Tr_count (sTr st_1)), .int depth, .int inn]) (rest := []) ⟨hx, hb, hml, hown, hts0⟩ (m_Pa_conditional l hlt dC dI cI cZ sa rk hp h a1 a2 a3 a4 ht hq n1 n2 fr0 lo0 E S F hRE hRS hRF hc ad_27 st_27 ok_27 _ (f_Tr_count (sTr st_1)) depth inn (fun z => hg (by unfold f_Pa_expression; rw [bnd_r w_1, if_pos c_2, if_pos c_3, if_pos c_4, if_pos c_5, if_pos c_6, if_neg c_7, bnd_r w_26, bnd_r w_27, if_pos c_28, if_neg c_29, bnd_n z]))) hP hD hK hS hA hC hZ hnt hlocks L_699 L_701 L_31 L_87 L_702 k_Pa_conditional ⟨(by show _ ≤ fr0 + 10; omega), (by show _ ≤ lo0 + 374; omega)⟩ rfl rfl hl.1 (Nat.le_of_ble_eq_true rfl) d_Pa_expression_189 rfl (fun q z => by unfold f_Pa_expression; rw [bnd_r w_1, if_pos c_2, if_pos c_3, if_pos c_4, if_pos c_5, if_pos c_6, if_neg c_7, bnd_r w_26, bnd_r w_27, if_pos c_28, if_neg c_29, bnd_l z]) hcl hsl (fun ad_32 st_32 H locs w_32 ok_32 e1_32 e2_32 hP hD hS => ?_)
                  have hcl := cl_next hcl e1_32
                  have hsl := cl_next hsl e2_32
                  refine lv_aload_n hx hb d_Pa_expression_192 rfl (lv_at hl 2 rfl) ?_
                  refine lv_iload hx hb d_Pa_expression_193 (lv_at hl 1 rfl) ?_
                  refine lv_iload_n hx hb d_Pa_expression_195 rfl (lv_at hl 4 rfl) ?_
                  refine lv_iload_n hx hb d_Pa_expression_196 rfl (lv_at hl 5 rfl) ?_
                  refine mx_Vv (As := [.int (f_Tr_count (sTr st_1)), .int depth, .int inn]) (rest := []) ⟨hx, hb, hml, hown, hts0⟩ (m_Pa_assignment l hlt dC dI cI cZ sa rk hp h a1 a2 a3 a4 ht hq n1 n2 fr0 lo0 E S F hRE hRS hRF hc ad_32 st_32 ok_32 _ (f_Tr_count (sTr st_1)) depth inn (fun z => hg (by unfold f_Pa_expression; rw [bnd_r w_1, if_pos c_2, if_pos c_3, if_pos c_4, if_pos c_5, if_pos c_6, if_neg c_7, bnd_r w_26, bnd_r w_27, if_pos c_28, if_neg c_29, bnd_r w_32, bnd_n z]))) hP hD hK hS hA hC hZ hnt hlocks L_703 L_705 L_32 L_87 L_706 k_Pa_assignment ⟨(by show _ ≤ fr0 + 10; omega), (by show _ ≤ lo0 + 374; omega)⟩ rfl rfl hl.1 (Nat.le_of_ble_eq_true rfl) d_Pa_expression_197 rfl (fun q z => by unfold f_Pa_expression; rw [bnd_r w_1, if_pos c_2, if_pos c_3, if_pos c_4, if_pos c_5, if_pos c_6, if_neg c_7, bnd_r w_26, bnd_r w_27, if_pos c_28, if_neg c_29, bnd_r w_32, bnd_l z]) hcl hsl (fun ad_33 st_33 H locs w_33 ok_33 e1_33 e2_33 hP hD hS => ?_)
                  have hcl := cl_next hcl e1_33
                  have hsl := cl_next hsl e2_33
                  refine lv_iload_n hx hb d_Pa_expression_200 rfl (lv_at hl 3 rfl) ?_
                  refine lv_iconst (v := (-1)) hx hb d_Pa_expression_201 (by decide) ?_
                  refine lv_icmp_ne (tgt := 213) hx hb d_Pa_expression_202 (by decide) (fun c_34 => ?_) (fun c_34 => ?_)
                  · exact mx_vret (stF := st_33) hx hb hr hlocks hK hP hD hS hcl hsl (by unfold f_Pa_expression; rw [bnd_r w_1, if_pos c_2, if_pos c_3, if_pos c_4, if_pos c_5, if_pos c_6, if_neg c_7, bnd_r w_26, bnd_r w_27, if_pos c_28, if_neg c_29, bnd_r w_32, bnd_r w_33, if_neg c_34]) ok_33 d_Pa_expression_213
                  · refine lv_aload_n hx hb d_Pa_expression_205 rfl (lv_at hl 2 rfl) ?_
                    refine lv_iload hx hb d_Pa_expression_206 (lv_at hl 1 rfl) ?_
                    refine lv_iload_n hx hb d_Pa_expression_208 rfl (lv_at hl 4 rfl) ?_
                    refine lv_iload_n hx hb d_Pa_expression_209 rfl (lv_at hl 5 rfl) ?_
                    refine mx_Vv (As := [.int (f_Tr_count (sTr st_1)), .int depth, .int inn]) (rest := []) ⟨hx, hb, hml, hown, hts0⟩ (m_Pa_commas l hlt dC dI cI cZ sa rk hp h a1 a2 a3 a4 ht hq n1 n2 fr0 lo0 E S F hRE hRS hRF hc ad_33 st_33 ok_33 _ (f_Tr_count (sTr st_1)) depth inn (fun z => hg (by unfold f_Pa_expression; rw [bnd_r w_1, if_pos c_2, if_pos c_3, if_pos c_4, if_pos c_5, if_pos c_6, if_neg c_7, bnd_r w_26, bnd_r w_27, if_pos c_28, if_neg c_29, bnd_r w_32, bnd_r w_33, if_pos c_34, bnd_n z]))) hP hD hK hS hA hC hZ hnt hlocks L_707 L_709 L_33 L_87 L_710 k_Pa_commas ⟨(by show _ ≤ fr0 + 10; omega), (by show _ ≤ lo0 + 374; omega)⟩ rfl rfl hl.1 (Nat.le_of_ble_eq_true rfl) d_Pa_expression_210 rfl (fun q z => by unfold f_Pa_expression; rw [bnd_r w_1, if_pos c_2, if_pos c_3, if_pos c_4, if_pos c_5, if_pos c_6, if_neg c_7, bnd_r w_26, bnd_r w_27, if_pos c_28, if_neg c_29, bnd_r w_32, bnd_r w_33, if_pos c_34, bnd_l z]) hcl hsl (fun ad_35 st_35 H locs w_35 ok_35 e1_35 e2_35 hP hD hS => ?_)
                    have hcl := cl_next hcl e1_35
                    have hsl := cl_next hsl e2_35
                    exact mx_vret (stF := st_35) hx hb hr hlocks hK hP hD hS hcl hsl (by unfold f_Pa_expression; rw [bnd_r w_1, if_pos c_2, if_pos c_3, if_pos c_4, if_pos c_5, if_pos c_6, if_neg c_7, bnd_r w_26, bnd_r w_27, if_pos c_28, if_neg c_29, bnd_r w_32, bnd_r w_33, if_pos c_34, bnd_r w_35]) ok_35 d_Pa_expression_213
              · refine lv_aload_n hx hb d_Pa_expression_167 rfl (lv_at hl 2 rfl) ?_
                refine lv_iload hx hb d_Pa_expression_168 (lv_at hl 1 rfl) ?_
                refine lv_iload_n hx hb d_Pa_expression_170 rfl (lv_at hl 3 rfl) ?_
                refine lv_iconst (v := 1) hx hb d_Pa_expression_171 (by decide) ?_
                refine va_mmax hx hb (hml.trans hl.1.symm) hown (hts _ L_682) (hts _ L_637) (hts _ L_96) (hts _ L_638) (by show _ ≤ fr0 + 10; omega) (Nat.le_trans (m := 21) (Nat.le_of_ble_eq_true rfl) (by show _ ≤ lo0 + 374; omega)) (Nat.le_trans (Nat.le_add_right _ _) hcl) (Nat.le_trans (Nat.le_add_right _ _) hsl) d_Pa_expression_172 ?_
                refine lv_iload_n hx hb d_Pa_expression_175 rfl (lv_at hl 4 rfl) ?_
                refine lv_iload_n hx hb d_Pa_expression_176 rfl (lv_at hl 5 rfl) ?_
                refine mx_Vv (As := [.int (f_Tr_count (sTr st_1)), .int (if level < 1 then 1 else level), .int depth, .int inn]) (rest := []) ⟨hx, hb, hml, hown, hts0⟩ (m_Pa_binaries l hlt dC dI cI cZ sa rk hp h a1 a2 a3 a4 ht hq n1 n2 fr0 lo0 E S F hRE hRS hRF hc ad_27 st_27 ok_27 _ (f_Tr_count (sTr st_1)) (if level < 1 then 1 else level) depth inn (fun z => hg (by unfold f_Pa_expression; rw [bnd_r w_1, if_pos c_2, if_pos c_3, if_pos c_4, if_pos c_5, if_pos c_6, if_neg c_7, bnd_r w_26, bnd_r w_27, if_neg c_28, bnd_n z]))) hP hD hK hS hA hC hZ hnt hlocks L_683 L_685 L_30 L_87 L_686 k_Pa_binaries ⟨(by show _ ≤ fr0 + 10; omega), (by show _ ≤ lo0 + 374; omega)⟩ rfl rfl hl.1 (Nat.le_of_ble_eq_true rfl) d_Pa_expression_177 rfl (fun q z => by unfold f_Pa_expression; rw [bnd_r w_1, if_pos c_2, if_pos c_3, if_pos c_4, if_pos c_5, if_pos c_6, if_neg c_7, bnd_r w_26, bnd_r w_27, if_neg c_28, bnd_l z]) hcl hsl (fun ad_36 st_36 H locs w_36 ok_36 e1_36 e2_36 hP hD hS => ?_)
                have hcl := cl_next hcl e1_36
                have hsl := cl_next hsl e2_36
                refine lv_iload_n hx hb d_Pa_expression_180 rfl (lv_at hl 3 rfl) ?_
                refine lv_if_gt (tgt := 200) hx hb d_Pa_expression_181 (by decide) (fun c_37 => ?_) (fun c_37 => ?_)
                · refine lv_iload_n hx hb d_Pa_expression_200 rfl (lv_at hl 3 rfl) ?_
                  refine lv_iconst (v := (-1)) hx hb d_Pa_expression_201 (by decide) ?_
                  refine lv_icmp_ne (tgt := 213) hx hb d_Pa_expression_202 (by decide) (fun c_38 => ?_) (fun c_38 => ?_)
                  · exact mx_vret (stF := st_36) hx hb hr hlocks hK hP hD hS hcl hsl (by unfold f_Pa_expression; rw [bnd_r w_1, if_pos c_2, if_pos c_3, if_pos c_4, if_pos c_5, if_pos c_6, if_neg c_7, bnd_r w_26, bnd_r w_27, if_neg c_28, bnd_r w_36, if_pos c_37, if_neg c_38]) ok_36 d_Pa_expression_213
                  · refine lv_aload_n hx hb d_Pa_expression_205 rfl (lv_at hl 2 rfl) ?_
                    refine lv_iload hx hb d_Pa_expression_206 (lv_at hl 1 rfl) ?_
                    refine lv_iload_n hx hb d_Pa_expression_208 rfl (lv_at hl 4 rfl) ?_
                    refine lv_iload_n hx hb d_Pa_expression_209 rfl (lv_at hl 5 rfl) ?_
                    refine mx_Vv (As := [.int (f_Tr_count (sTr st_1)), .int depth, .int inn]) (rest := []) ⟨hx, hb, hml, hown, hts0⟩ (m_Pa_commas l hlt dC dI cI cZ sa rk hp h a1 a2 a3 a4 ht hq n1 n2 fr0 lo0 E S F hRE hRS hRF hc ad_36 st_36 ok_36 _ (f_Tr_count (sTr st_1)) depth inn (fun z => hg (by unfold f_Pa_expression; rw [bnd_r w_1, if_pos c_2, if_pos c_3, if_pos c_4, if_pos c_5, if_pos c_6, if_neg c_7, bnd_r w_26, bnd_r w_27, if_neg c_28, bnd_r w_36, if_pos c_37, if_pos c_38, bnd_n z]))) hP hD hK hS hA hC hZ hnt hlocks L_707 L_709 L_33 L_87 L_710 k_Pa_commas ⟨(by show _ ≤ fr0 + 10; omega), (by show _ ≤ lo0 + 374; omega)⟩ rfl rfl hl.1 (Nat.le_of_ble_eq_true rfl) d_Pa_expression_210 rfl (fun q z => by unfold f_Pa_expression; rw [bnd_r w_1, if_pos c_2, if_pos c_3, if_pos c_4, if_pos c_5, if_pos c_6, if_neg c_7, bnd_r w_26, bnd_r w_27, if_neg c_28, bnd_r w_36, if_pos c_37, if_pos c_38, bnd_l z]) hcl hsl (fun ad_39 st_39 H locs w_39 ok_39 e1_39 e2_39 hP hD hS => ?_)
                    have hcl := cl_next hcl e1_39
                    have hsl := cl_next hsl e2_39
                    exact mx_vret (stF := st_39) hx hb hr hlocks hK hP hD hS hcl hsl (by unfold f_Pa_expression; rw [bnd_r w_1, if_pos c_2, if_pos c_3, if_pos c_4, if_pos c_5, if_pos c_6, if_neg c_7, bnd_r w_26, bnd_r w_27, if_neg c_28, bnd_r w_36, if_pos c_37, if_pos c_38, bnd_r w_39]) ok_39 d_Pa_expression_213
                · refine lv_aload_n hx hb d_Pa_expression_184 rfl (lv_at hl 2 rfl) ?_
                  refine lv_iload hx hb d_Pa_expression_185 (lv_at hl 1 rfl) ?_
                  refine lv_iload_n hx hb d_Pa_expression_187 rfl (lv_at hl 4 rfl) ?_
                  refine lv_iload_n hx hb d_Pa_expression_188 rfl (lv_at hl 5 rfl) ?_
                  refine mx_Vv (As := [.int (f_Tr_count (sTr st_1)), .int depth, .int inn]) (rest := []) ⟨hx, hb, hml, hown, hts0⟩ (m_Pa_conditional l hlt dC dI cI cZ sa rk hp h a1 a2 a3 a4 ht hq n1 n2 fr0 lo0 E S F hRE hRS hRF hc ad_36 st_36 ok_36 _ (f_Tr_count (sTr st_1)) depth inn (fun z => hg (by unfold f_Pa_expression; rw [bnd_r w_1, if_pos c_2, if_pos c_3, if_pos c_4, if_pos c_5, if_pos c_6, if_neg c_7, bnd_r w_26, bnd_r w_27, if_neg c_28, bnd_r w_36, if_neg c_37, bnd_n z]))) hP hD hK hS hA hC hZ hnt hlocks L_699 L_701 L_31 L_87 L_702 k_Pa_conditional ⟨(by show _ ≤ fr0 + 10; omega), (by show _ ≤ lo0 + 374; omega)⟩ rfl rfl hl.1 (Nat.le_of_ble_eq_true rfl) d_Pa_expression_189 rfl (fun q z => by unfold f_Pa_expression; rw [bnd_r w_1, if_pos c_2, if_pos c_3, if_pos c_4, if_pos c_5, if_pos c_6, if_neg c_7, bnd_r w_26, bnd_r w_27, if_neg c_28, bnd_r w_36, if_neg c_37, bnd_l z]) hcl hsl (fun ad_40 st_40 H locs w_40 ok_40 e1_40 e2_40 hP hD hS => ?_)
                  have hcl := cl_next hcl e1_40
                  have hsl := cl_next hsl e2_40
                  refine lv_aload_n hx hb d_Pa_expression_192 rfl (lv_at hl 2 rfl) ?_
                  refine lv_iload hx hb d_Pa_expression_193 (lv_at hl 1 rfl) ?_
                  refine lv_iload_n hx hb d_Pa_expression_195 rfl (lv_at hl 4 rfl) ?_
                  refine lv_iload_n hx hb d_Pa_expression_196 rfl (lv_at hl 5 rfl) ?_
                  refine mx_Vv (As := [.int (f_Tr_count (sTr st_1)), .int depth, .int inn]) (rest := []) ⟨hx, hb, hml, hown, hts0⟩ (m_Pa_assignment l hlt dC dI cI cZ sa rk hp h a1 a2 a3 a4 ht hq n1 n2 fr0 lo0 E S F hRE hRS hRF hc ad_40 st_40 ok_40 _ (f_Tr_count (sTr st_1)) depth inn (fun z => hg (by unfold f_Pa_expression; rw [bnd_r w_1, if_pos c_2, if_pos c_3, if_pos c_4, if_pos c_5, if_pos c_6, if_neg c_7, bnd_r w_26, bnd_r w_27, if_neg c_28, bnd_r w_36, if_neg c_37, bnd_r w_40, bnd_n z]))) hP hD hK hS hA hC hZ hnt hlocks L_703 L_705 L_32 L_87 L_706 k_Pa_assignment ⟨(by show _ ≤ fr0 + 10; omega), (by show _ ≤ lo0 + 374; omega)⟩ rfl rfl hl.1 (Nat.le_of_ble_eq_true rfl) d_Pa_expression_197 rfl (fun q z => by unfold f_Pa_expression; rw [bnd_r w_1, if_pos c_2, if_pos c_3, if_pos c_4, if_pos c_5, if_pos c_6, if_neg c_7, bnd_r w_26, bnd_r w_27, if_neg c_28, bnd_r w_36, if_neg c_37, bnd_r w_40, bnd_l z]) hcl hsl (fun ad_41 st_41 H locs w_41 ok_41 e1_41 e2_41 hP hD hS => ?_)
                  have hcl := cl_next hcl e1_41
                  have hsl := cl_next hsl e2_41
                  refine lv_iload_n hx hb d_Pa_expression_200 rfl (lv_at hl 3 rfl) ?_
                  refine lv_iconst (v := (-1)) hx hb d_Pa_expression_201 (by decide) ?_
                  refine lv_icmp_ne (tgt := 213) hx hb d_Pa_expression_202 (by decide) (fun c_42 => ?_) (fun c_42 => ?_)
                  · exact mx_vret (stF := st_41) hx hb hr hlocks hK hP hD hS hcl hsl (by unfold f_Pa_expression; rw [bnd_r w_1, if_pos c_2, if_pos c_3, if_pos c_4, if_pos c_5, if_pos c_6, if_neg c_7, bnd_r w_26, bnd_r w_27, if_neg c_28, bnd_r w_36, if_neg c_37, bnd_r w_40, bnd_r w_41, if_neg c_42]) ok_41 d_Pa_expression_213
                  · refine lv_aload_n hx hb d_Pa_expression_205 rfl (lv_at hl 2 rfl) ?_
                    refine lv_iload hx hb d_Pa_expression_206 (lv_at hl 1 rfl) ?_
                    refine lv_iload_n hx hb d_Pa_expression_208 rfl (lv_at hl 4 rfl) ?_
                    refine lv_iload_n hx hb d_Pa_expression_209 rfl (lv_at hl 5 rfl) ?_
                    refine mx_Vv (As := [.int (f_Tr_count (sTr st_1)), .int depth, .int inn]) (rest := []) ⟨hx, hb, hml, hown, hts0⟩ (m_Pa_commas l hlt dC dI cI cZ sa rk hp h a1 a2 a3 a4 ht hq n1 n2 fr0 lo0 E S F hRE hRS hRF hc ad_41 st_41 ok_41 _ (f_Tr_count (sTr st_1)) depth inn (fun z => hg (by unfold f_Pa_expression; rw [bnd_r w_1, if_pos c_2, if_pos c_3, if_pos c_4, if_pos c_5, if_pos c_6, if_neg c_7, bnd_r w_26, bnd_r w_27, if_neg c_28, bnd_r w_36, if_neg c_37, bnd_r w_40, bnd_r w_41, if_pos c_42, bnd_n z]))) hP hD hK hS hA hC hZ hnt hlocks L_707 L_709 L_33 L_87 L_710 k_Pa_commas ⟨(by show _ ≤ fr0 + 10; omega), (by show _ ≤ lo0 + 374; omega)⟩ rfl rfl hl.1 (Nat.le_of_ble_eq_true rfl) d_Pa_expression_210 rfl (fun q z => by unfold f_Pa_expression; rw [bnd_r w_1, if_pos c_2, if_pos c_3, if_pos c_4, if_pos c_5, if_pos c_6, if_neg c_7, bnd_r w_26, bnd_r w_27, if_neg c_28, bnd_r w_36, if_neg c_37, bnd_r w_40, bnd_r w_41, if_pos c_42, bnd_l z]) hcl hsl (fun ad_43 st_43 H locs w_43 ok_43 e1_43 e2_43 hP hD hS => ?_)
                    have hcl := cl_next hcl e1_43
                    have hsl := cl_next hsl e2_43
                    exact mx_vret (stF := st_43) hx hb hr hlocks hK hP hD hS hcl hsl (by unfold f_Pa_expression; rw [bnd_r w_1, if_pos c_2, if_pos c_3, if_pos c_4, if_pos c_5, if_pos c_6, if_neg c_7, bnd_r w_26, bnd_r w_27, if_neg c_28, bnd_r w_36, if_neg c_37, bnd_r w_40, bnd_r w_41, if_pos c_42, bnd_r w_43]) ok_43 d_Pa_expression_213
          · refine lv_aload_n hx hb d_Pa_expression_106 rfl (lv_at hl 2 rfl) ?_
            refine lv_bipush (v := 50) hx hb d_Pa_expression_107 (by decide) ?_
            refine lv_iload_n hx hb d_Pa_expression_109 rfl (lv_at hl 4 rfl) ?_
            refine mx_Vv (As := [.int 50, .int depth]) (rest := []) ⟨hx, hb, hml, hown, hts0⟩ (hRF hc ad_1 st_1 ok_1 _ 50 depth (fun z => hg (by unfold f_Pa_expression; rw [bnd_r w_1, if_pos c_2, if_pos c_3, if_pos c_4, if_pos c_5, if_neg c_6, bnd_n z]))) hP hD hK hS hA hC hZ hnt hlocks L_449 L_451 L_5 L_87 L_452 k_Pa_function ⟨(by show _ ≤ fr0 + 10; omega), (by show _ ≤ lo0 + 374; omega)⟩ rfl rfl hl.1 (Nat.le_of_ble_eq_true rfl) d_Pa_expression_110 rfl (fun q z => by unfold f_Pa_expression; rw [bnd_r w_1, if_pos c_2, if_pos c_3, if_pos c_4, if_pos c_5, if_neg c_6, bnd_l z]) hcl hsl (fun ad_44 st_44 H locs w_44 ok_44 e1_44 e2_44 hP hD hS => ?_)
            have hcl := cl_next hcl e1_44
            have hsl := cl_next hsl e2_44
            refine lv_goto (tgt := 137) hx hb d_Pa_expression_113 (by decide) ?_
            refine lv_iload hx hb d_Pa_expression_137 (lv_at hl 0 rfl) ?_
            refine lv_iconst (v := (-1)) hx hb d_Pa_expression_139 (by decide) ?_
            refine lv_icmp_ne (tgt := 161) hx hb d_Pa_expression_140 (by decide) (fun q9 => absurd q9 (by decide)) (fun _ => ?_)
            refine lv_aload_n hx hb d_Pa_expression_143 rfl (lv_at hl 2 rfl) ?_
            refine lv_iload hx hb d_Pa_expression_144 (lv_at hl 1 rfl) ?_
            refine lv_iload_n hx hb d_Pa_expression_146 rfl (lv_at hl 4 rfl) ?_
            refine lv_iload_n hx hb d_Pa_expression_147 rfl (lv_at hl 3 rfl) ?_
            refine lv_bipush (v := 12) hx hb d_Pa_expression_148 (by decide) ?_
            refine lv_icmp_ge (tgt := 157) hx hb d_Pa_expression_150 (by decide) (fun _ => ?_) (fun q9 => absurd c_2 q9)
            refine lv_iconst (v := 0) hx hb d_Pa_expression_157 (by decide) ?_
            refine mx_Vv (As := [.int (f_Tr_count (sTr st_1)), .int depth, .int 0]) (rest := []) ⟨hx, hb, hml, hown, hts0⟩ (m_Pa_tails l hlt dC dI cI cZ sa rk hp h a1 a2 a3 a4 ht hq n1 n2 fr0 lo0 E S F hRE hRS hRF hc ad_44 st_44 ok_44 _ (f_Tr_count (sTr st_1)) depth 0 (fun z => hg (by unfold f_Pa_expression; rw [bnd_r w_1, if_pos c_2, if_pos c_3, if_pos c_4, if_pos c_5, if_neg c_6, bnd_r w_44, bnd_n z]))) hP hD hK hS hA hC hZ hnt hlocks L_661 L_663 L_27 L_87 L_664 k_Pa_tails ⟨(by show _ ≤ fr0 + 10; omega), (by show _ ≤ lo0 + 374; omega)⟩ rfl rfl hl.1 (Nat.le_of_ble_eq_true rfl) d_Pa_expression_158 rfl (fun q z => by unfold f_Pa_expression; rw [bnd_r w_1, if_pos c_2, if_pos c_3, if_pos c_4, if_pos c_5, if_neg c_6, bnd_r w_44, bnd_l z]) hcl hsl (fun ad_45 st_45 H locs w_45 ok_45 e1_45 e2_45 hP hD hS => ?_)
            have hcl := cl_next hcl e1_45
            have hsl := cl_next hsl e2_45
            refine lv_iload_n hx hb d_Pa_expression_161 rfl (lv_at hl 3 rfl) ?_
            refine lv_bipush (v := 10) hx hb d_Pa_expression_162 (by decide) ?_
            refine lv_icmp_gt (tgt := 180) hx hb d_Pa_expression_164 (by decide) (fun c_46 => ?_) (fun c_46 => ?_)
            · refine lv_iload_n hx hb d_Pa_expression_180 rfl (lv_at hl 3 rfl) ?_
              refine lv_if_gt (tgt := 200) hx hb d_Pa_expression_181 (by decide) (fun c_47 => ?_) (fun c_47 => ?_)
              · refine lv_iload_n hx hb d_Pa_expression_200 rfl (lv_at hl 3 rfl) ?_
                refine lv_iconst (v := (-1)) hx hb d_Pa_expression_201 (by decide) ?_
                refine lv_icmp_ne (tgt := 213) hx hb d_Pa_expression_202 (by decide) (fun c_48 => ?_) (fun c_48 => ?_)
                · exact mx_vret (stF := st_45) hx hb hr hlocks hK hP hD hS hcl hsl (by unfold f_Pa_expression; rw [bnd_r w_1, if_pos c_2, if_pos c_3, if_pos c_4, if_pos c_5, if_neg c_6, bnd_r w_44, bnd_r w_45, if_pos c_46, if_pos c_47, if_neg c_48]) ok_45 d_Pa_expression_213
                · refine lv_aload_n hx hb d_Pa_expression_205 rfl (lv_at hl 2 rfl) ?_
                  refine lv_iload hx hb d_Pa_expression_206 (lv_at hl 1 rfl) ?_
                  refine lv_iload_n hx hb d_Pa_expression_208 rfl (lv_at hl 4 rfl) ?_
                  refine lv_iload_n hx hb d_Pa_expression_209 rfl (lv_at hl 5 rfl) ?_
                  refine mx_Vv (As := [.int (f_Tr_count (sTr st_1)), .int depth, .int inn]) (rest := []) ⟨hx, hb, hml, hown, hts0⟩ (m_Pa_commas l hlt dC dI cI cZ sa rk hp h a1 a2 a3 a4 ht hq n1 n2 fr0 lo0 E S F hRE hRS hRF hc ad_45 st_45 ok_45 _ (f_Tr_count (sTr st_1)) depth inn (fun z => hg (by unfold f_Pa_expression; rw [bnd_r w_1, if_pos c_2, if_pos c_3, if_pos c_4, if_pos c_5, if_neg c_6, bnd_r w_44, bnd_r w_45, if_pos c_46, if_pos c_47, if_pos c_48, bnd_n z]))) hP hD hK hS hA hC hZ hnt hlocks L_707 L_709 L_33 L_87 L_710 k_Pa_commas ⟨(by show _ ≤ fr0 + 10; omega), (by show _ ≤ lo0 + 374; omega)⟩ rfl rfl hl.1 (Nat.le_of_ble_eq_true rfl) d_Pa_expression_210 rfl (fun q z => by unfold f_Pa_expression; rw [bnd_r w_1, if_pos c_2, if_pos c_3, if_pos c_4, if_pos c_5, if_neg c_6, bnd_r w_44, bnd_r w_45, if_pos c_46, if_pos c_47, if_pos c_48, bnd_l z]) hcl hsl (fun ad_49 st_49 H locs w_49 ok_49 e1_49 e2_49 hP hD hS => ?_)
                  have hcl := cl_next hcl e1_49
                  have hsl := cl_next hsl e2_49
                  exact mx_vret (stF := st_49) hx hb hr hlocks hK hP hD hS hcl hsl (by unfold f_Pa_expression; rw [bnd_r w_1, if_pos c_2, if_pos c_3, if_pos c_4, if_pos c_5, if_neg c_6, bnd_r w_44, bnd_r w_45, if_pos c_46, if_pos c_47, if_pos c_48, bnd_r w_49]) ok_49 d_Pa_expression_213
              · refine lv_aload_n hx hb d_Pa_expression_184 rfl (lv_at hl 2 rfl) ?_
                refine lv_iload hx hb d_Pa_expression_185 (lv_at hl 1 rfl) ?_
                refine lv_iload_n hx hb d_Pa_expression_187 rfl (lv_at hl 4 rfl) ?_
                refine lv_iload_n hx hb d_Pa_expression_188 rfl (lv_at hl 5 rfl) ?_
                refine mx_Vv (As := [.int (f_Tr_count (sTr st_1)), .int depth, .int inn]) (rest := []) ⟨hx, hb, hml, hown, hts0⟩ (m_Pa_conditional l hlt dC dI cI cZ sa rk hp h a1 a2 a3 a4 ht hq n1 n2 fr0 lo0 E S F hRE hRS hRF hc ad_45 st_45 ok_45 _ (f_Tr_count (sTr st_1)) depth inn (fun z => hg (by unfold f_Pa_expression; rw [bnd_r w_1, if_pos c_2, if_pos c_3, if_pos c_4, if_pos c_5, if_neg c_6, bnd_r w_44, bnd_r w_45, if_pos c_46, if_neg c_47, bnd_n z]))) hP hD hK hS hA hC hZ hnt hlocks L_699 L_701 L_31 L_87 L_702 k_Pa_conditional ⟨(by show _ ≤ fr0 + 10; omega), (by show _ ≤ lo0 + 374; omega)⟩ rfl rfl hl.1 (Nat.le_of_ble_eq_true rfl) d_Pa_expression_189 rfl (fun q z => by unfold f_Pa_expression; rw [bnd_r w_1, if_pos c_2, if_pos c_3, if_pos c_4, if_pos c_5, if_neg c_6, bnd_r w_44, bnd_r w_45, if_pos c_46, if_neg c_47, bnd_l z]) hcl hsl (fun ad_50 st_50 H locs w_50 ok_50 e1_50 e2_50 hP hD hS => ?_)
                have hcl := cl_next hcl e1_50
                have hsl := cl_next hsl e2_50
                refine lv_aload_n hx hb d_Pa_expression_192 rfl (lv_at hl 2 rfl) ?_
                refine lv_iload hx hb d_Pa_expression_193 (lv_at hl 1 rfl) ?_
                refine lv_iload_n hx hb d_Pa_expression_195 rfl (lv_at hl 4 rfl) ?_
                refine lv_iload_n hx hb d_Pa_expression_196 rfl (lv_at hl 5 rfl) ?_
                refine mx_Vv (As := [.int (f_Tr_count (sTr st_1)), .int depth, .int inn]) (rest := []) ⟨hx, hb, hml, hown, hts0⟩ (m_Pa_assignment l hlt dC dI cI cZ sa rk hp h a1 a2 a3 a4 ht hq n1 n2 fr0 lo0 E S F hRE hRS hRF hc ad_50 st_50 ok_50 _ (f_Tr_count (sTr st_1)) depth inn (fun z => hg (by unfold f_Pa_expression; rw [bnd_r w_1, if_pos c_2, if_pos c_3, if_pos c_4, if_pos c_5, if_neg c_6, bnd_r w_44, bnd_r w_45, if_pos c_46, if_neg c_47, bnd_r w_50, bnd_n z]))) hP hD hK hS hA hC hZ hnt hlocks L_703 L_705 L_32 L_87 L_706 k_Pa_assignment ⟨(by show _ ≤ fr0 + 10; omega), (by show _ ≤ lo0 + 374; omega)⟩ rfl rfl hl.1 (Nat.le_of_ble_eq_true rfl) d_Pa_expression_197 rfl (fun q z => by unfold f_Pa_expression; rw [bnd_r w_1, if_pos c_2, if_pos c_3, if_pos c_4, if_pos c_5, if_neg c_6, bnd_r w_44, bnd_r w_45, if_pos c_46, if_neg c_47, bnd_r w_50, bnd_l z]) hcl hsl (fun ad_51 st_51 H locs w_51 ok_51 e1_51 e2_51 hP hD hS => ?_)
                have hcl := cl_next hcl e1_51
                have hsl := cl_next hsl e2_51
                refine lv_iload_n hx hb d_Pa_expression_200 rfl (lv_at hl 3 rfl) ?_
                refine lv_iconst (v := (-1)) hx hb d_Pa_expression_201 (by decide) ?_
                refine lv_icmp_ne (tgt := 213) hx hb d_Pa_expression_202 (by decide) (fun c_52 => ?_) (fun c_52 => ?_)
                · exact mx_vret (stF := st_51) hx hb hr hlocks hK hP hD hS hcl hsl (by unfold f_Pa_expression; rw [bnd_r w_1, if_pos c_2, if_pos c_3, if_pos c_4, if_pos c_5, if_neg c_6, bnd_r w_44, bnd_r w_45, if_pos c_46, if_neg c_47, bnd_r w_50, bnd_r w_51, if_neg c_52]) ok_51 d_Pa_expression_213
                · refine lv_aload_n hx hb d_Pa_expression_205 rfl (lv_at hl 2 rfl) ?_
                  refine lv_iload hx hb d_Pa_expression_206 (lv_at hl 1 rfl) ?_
                  refine lv_iload_n hx hb d_Pa_expression_208 rfl (lv_at hl 4 rfl) ?_
                  refine lv_iload_n hx hb d_Pa_expression_209 rfl (lv_at hl 5 rfl) ?_
                  refine mx_Vv (As := [.int (f_Tr_count (sTr st_1)), .int depth, .int inn]) (rest := []) ⟨hx, hb, hml, hown, hts0⟩ (m_Pa_commas l hlt dC dI cI cZ sa rk hp h a1 a2 a3 a4 ht hq n1 n2 fr0 lo0 E S F hRE hRS hRF hc ad_51 st_51 ok_51 _ (f_Tr_count (sTr st_1)) depth inn (fun z => hg (by unfold f_Pa_expression; rw [bnd_r w_1, if_pos c_2, if_pos c_3, if_pos c_4, if_pos c_5, if_neg c_6, bnd_r w_44, bnd_r w_45, if_pos c_46, if_neg c_47, bnd_r w_50, bnd_r w_51, if_pos c_52, bnd_n z]))) hP hD hK hS hA hC hZ hnt hlocks L_707 L_709 L_33 L_87 L_710 k_Pa_commas ⟨(by show _ ≤ fr0 + 10; omega), (by show _ ≤ lo0 + 374; omega)⟩ rfl rfl hl.1 (Nat.le_of_ble_eq_true rfl) d_Pa_expression_210 rfl (fun q z => by unfold f_Pa_expression; rw [bnd_r w_1, if_pos c_2, if_pos c_3, if_pos c_4, if_pos c_5, if_neg c_6, bnd_r w_44, bnd_r w_45, if_pos c_46, if_neg c_47, bnd_r w_50, bnd_r w_51, if_pos c_52, bnd_l z]) hcl hsl (fun ad_53 st_53 H locs w_53 ok_53 e1_53 e2_53 hP hD hS => ?_)
                  have hcl := cl_next hcl e1_53
                  have hsl := cl_next hsl e2_53
                  exact mx_vret (stF := st_53) hx hb hr hlocks hK hP hD hS hcl hsl (by unfold f_Pa_expression; rw [bnd_r w_1, if_pos c_2, if_pos c_3, if_pos c_4, if_pos c_5, if_neg c_6, bnd_r w_44, bnd_r w_45, if_pos c_46, if_neg c_47, bnd_r w_50, bnd_r w_51, if_pos c_52, bnd_r w_53]) ok_53 d_Pa_expression_213
            · refine lv_aload_n hx hb d_Pa_expression_167 rfl (lv_at hl 2 rfl) ?_
              refine lv_iload hx hb d_Pa_expression_168 (lv_at hl 1 rfl) ?_
              refine lv_iload_n hx hb d_Pa_expression_170 rfl (lv_at hl 3 rfl) ?_
              refine lv_iconst (v := 1) hx hb d_Pa_expression_171 (by decide) ?_
              refine va_mmax hx hb (hml.trans hl.1.symm) hown (hts _ L_682) (hts _ L_637) (hts _ L_96) (hts _ L_638) (by show _ ≤ fr0 + 10; omega) (Nat.le_trans (m := 21) (Nat.le_of_ble_eq_true rfl) (by show _ ≤ lo0 + 374; omega)) (Nat.le_trans (Nat.le_add_right _ _) hcl) (Nat.le_trans (Nat.le_add_right _ _) hsl) d_Pa_expression_172 ?_
              refine lv_iload_n hx hb d_Pa_expression_175 rfl (lv_at hl 4 rfl) ?_
              refine lv_iload_n hx hb d_Pa_expression_176 rfl (lv_at hl 5 rfl) ?_
              refine mx_Vv (As := [.int (f_Tr_count (sTr st_1)), .int (if level < 1 then 1 else level), .int depth, .int inn]) (rest := []) ⟨hx, hb, hml, hown, hts0⟩ (m_Pa_binaries l hlt dC dI cI cZ sa rk hp h a1 a2 a3 a4 ht hq n1 n2 fr0 lo0 E S F hRE hRS hRF hc ad_45 st_45 ok_45 _ (f_Tr_count (sTr st_1)) (if level < 1 then 1 else level) depth inn (fun z => hg (by unfold f_Pa_expression; rw [bnd_r w_1, if_pos c_2, if_pos c_3, if_pos c_4, if_pos c_5, if_neg c_6, bnd_r w_44, bnd_r w_45, if_neg c_46, bnd_n z]))) hP hD hK hS hA hC hZ hnt hlocks L_683 L_685 L_30 L_87 L_686 k_Pa_binaries ⟨(by show _ ≤ fr0 + 10; omega), (by show _ ≤ lo0 + 374; omega)⟩ rfl rfl hl.1 (Nat.le_of_ble_eq_true rfl) d_Pa_expression_177 rfl (fun q z => by unfold f_Pa_expression; rw [bnd_r w_1, if_pos c_2, if_pos c_3, if_pos c_4, if_pos c_5, if_neg c_6, bnd_r w_44, bnd_r w_45, if_neg c_46, bnd_l z]) hcl hsl (fun ad_54 st_54 H locs w_54 ok_54 e1_54 e2_54 hP hD hS => ?_)
              have hcl := cl_next hcl e1_54
              have hsl := cl_next hsl e2_54
              refine lv_iload_n hx hb d_Pa_expression_180 rfl (lv_at hl 3 rfl) ?_
              refine lv_if_gt (tgt := 200) hx hb d_Pa_expression_181 (by decide) (fun c_55 => ?_) (fun c_55 => ?_)
              · refine lv_iload_n hx hb d_Pa_expression_200 rfl (lv_at hl 3 rfl) ?_
                refine lv_iconst (v := (-1)) hx hb d_Pa_expression_201 (by decide) ?_
                refine lv_icmp_ne (tgt := 213) hx hb d_Pa_expression_202 (by decide) (fun c_56 => ?_) (fun c_56 => ?_)
                · exact mx_vret (stF := st_54) hx hb hr hlocks hK hP hD hS hcl hsl (by unfold f_Pa_expression; rw [bnd_r w_1, if_pos c_2, if_pos c_3, if_pos c_4, if_pos c_5, if_neg c_6, bnd_r w_44, bnd_r w_45, if_neg c_46, bnd_r w_54, if_pos c_55, if_neg c_56]) ok_54 d_Pa_expression_213
                · refine lv_aload_n hx hb d_Pa_expression_205 rfl (lv_at hl 2 rfl) ?_
                  refine lv_iload hx hb d_Pa_expression_206 (lv_at hl 1 rfl) ?_
                  refine lv_iload_n hx hb d_Pa_expression_208 rfl (lv_at hl 4 rfl) ?_
                  refine lv_iload_n hx hb d_Pa_expression_209 rfl (lv_at hl 5 rfl) ?_
                  refine mx_Vv (As := [.int (f_Tr_count (sTr st_1)), .int depth, .int inn]) (rest := []) ⟨hx, hb, hml, hown, hts0⟩ (m_Pa_commas l hlt dC dI cI cZ sa rk hp h a1 a2 a3 a4 ht hq n1 n2 fr0 lo0 E S F hRE hRS hRF hc ad_54 st_54 ok_54 _ (f_Tr_count (sTr st_1)) depth inn (fun z => hg (by unfold f_Pa_expression; rw [bnd_r w_1, if_pos c_2, if_pos c_3, if_pos c_4, if_pos c_5, if_neg c_6, bnd_r w_44, bnd_r w_45, if_neg c_46, bnd_r w_54, if_pos c_55, if_pos c_56, bnd_n z]))) hP hD hK hS hA hC hZ hnt hlocks L_707 L_709 L_33 L_87 L_710 k_Pa_commas ⟨(by show _ ≤ fr0 + 10; omega), (by show _ ≤ lo0 + 374; omega)⟩ rfl rfl hl.1 (Nat.le_of_ble_eq_true rfl) d_Pa_expression_210 rfl (fun q z => by unfold f_Pa_expression; rw [bnd_r w_1, if_pos c_2, if_pos c_3, if_pos c_4, if_pos c_5, if_neg c_6, bnd_r w_44, bnd_r w_45, if_neg c_46, bnd_r w_54, if_pos c_55, if_pos c_56, bnd_l z]) hcl hsl (fun ad_57 st_57 H locs w_57 ok_57 e1_57 e2_57 hP hD hS => ?_)
                  have hcl := cl_next hcl e1_57
                  have hsl := cl_next hsl e2_57
                  exact mx_vret (stF := st_57) hx hb hr hlocks hK hP hD hS hcl hsl (by unfold f_Pa_expression; rw [bnd_r w_1, if_pos c_2, if_pos c_3, if_pos c_4, if_pos c_5, if_neg c_6, bnd_r w_44, bnd_r w_45, if_neg c_46, bnd_r w_54, if_pos c_55, if_pos c_56, bnd_r w_57]) ok_57 d_Pa_expression_213
              · refine lv_aload_n hx hb d_Pa_expression_184 rfl (lv_at hl 2 rfl) ?_
                refine lv_iload hx hb d_Pa_expression_185 (lv_at hl 1 rfl) ?_
                refine lv_iload_n hx hb d_Pa_expression_187 rfl (lv_at hl 4 rfl) ?_
                refine lv_iload_n hx hb d_Pa_expression_188 rfl (lv_at hl 5 rfl) ?_
                refine mx_Vv (As := [.int (f_Tr_count (sTr st_1)), .int depth, .int inn]) (rest := []) ⟨hx, hb, hml, hown, hts0⟩ (m_Pa_conditional l hlt dC dI cI cZ sa rk hp h a1 a2 a3 a4 ht hq n1 n2 fr0 lo0 E S F hRE hRS hRF hc ad_54 st_54 ok_54 _ (f_Tr_count (sTr st_1)) depth inn (fun z => hg (by unfold f_Pa_expression; rw [bnd_r w_1, if_pos c_2, if_pos c_3, if_pos c_4, if_pos c_5, if_neg c_6, bnd_r w_44, bnd_r w_45, if_neg c_46, bnd_r w_54, if_neg c_55, bnd_n z]))) hP hD hK hS hA hC hZ hnt hlocks L_699 L_701 L_31 L_87 L_702 k_Pa_conditional ⟨(by show _ ≤ fr0 + 10; omega), (by show _ ≤ lo0 + 374; omega)⟩ rfl rfl hl.1 (Nat.le_of_ble_eq_true rfl) d_Pa_expression_189 rfl (fun q z => by unfold f_Pa_expression; rw [bnd_r w_1, if_pos c_2, if_pos c_3, if_pos c_4, if_pos c_5, if_neg c_6, bnd_r w_44, bnd_r w_45, if_neg c_46, bnd_r w_54, if_neg c_55, bnd_l z]) hcl hsl (fun ad_58 st_58 H locs w_58 ok_58 e1_58 e2_58 hP hD hS => ?_)
                have hcl := cl_next hcl e1_58
                have hsl := cl_next hsl e2_58
                refine lv_aload_n hx hb d_Pa_expression_192 rfl (lv_at hl 2 rfl) ?_
                refine lv_iload hx hb d_Pa_expression_193 (lv_at hl 1 rfl) ?_
                refine lv_iload_n hx hb d_Pa_expression_195 rfl (lv_at hl 4 rfl) ?_
                refine lv_iload_n hx hb d_Pa_expression_196 rfl (lv_at hl 5 rfl) ?_
                refine mx_Vv (As := [.int (f_Tr_count (sTr st_1)), .int depth, .int inn]) (rest := []) ⟨hx, hb, hml, hown, hts0⟩ (m_Pa_assignment l hlt dC dI cI cZ sa rk hp h a1 a2 a3 a4 ht hq n1 n2 fr0 lo0 E S F hRE hRS hRF hc ad_58 st_58 ok_58 _ (f_Tr_count (sTr st_1)) depth inn (fun z => hg (by unfold f_Pa_expression; rw [bnd_r w_1, if_pos c_2, if_pos c_3, if_pos c_4, if_pos c_5, if_neg c_6, bnd_r w_44, bnd_r w_45, if_neg c_46, bnd_r w_54, if_neg c_55, bnd_r w_58, bnd_n z]))) hP hD hK hS hA hC hZ hnt hlocks L_703 L_705 L_32 L_87 L_706 k_Pa_assignment ⟨(by show _ ≤ fr0 + 10; omega), (by show _ ≤ lo0 + 374; omega)⟩ rfl rfl hl.1 (Nat.le_of_ble_eq_true rfl) d_Pa_expression_197 rfl (fun q z => by unfold f_Pa_expression; rw [bnd_r w_1, if_pos c_2, if_pos c_3, if_pos c_4, if_pos c_5, if_neg c_6, bnd_r w_44, bnd_r w_45, if_neg c_46, bnd_r w_54, if_neg c_55, bnd_r w_58, bnd_l z]) hcl hsl (fun ad_59 st_59 H locs w_59 ok_59 e1_59 e2_59 hP hD hS => ?_)
                have hcl := cl_next hcl e1_59
                have hsl := cl_next hsl e2_59
                refine lv_iload_n hx hb d_Pa_expression_200 rfl (lv_at hl 3 rfl) ?_
                refine lv_iconst (v := (-1)) hx hb d_Pa_expression_201 (by decide) ?_
                refine lv_icmp_ne (tgt := 213) hx hb d_Pa_expression_202 (by decide) (fun c_60 => ?_) (fun c_60 => ?_)
                · exact mx_vret (stF := st_59) hx hb hr hlocks hK hP hD hS hcl hsl (by unfold f_Pa_expression; rw [bnd_r w_1, if_pos c_2, if_pos c_3, if_pos c_4, if_pos c_5, if_neg c_6, bnd_r w_44, bnd_r w_45, if_neg c_46, bnd_r w_54, if_neg c_55, bnd_r w_58, bnd_r w_59, if_neg c_60]) ok_59 d_Pa_expression_213
                · refine lv_aload_n hx hb d_Pa_expression_205 rfl (lv_at hl 2 rfl) ?_
                  refine lv_iload hx hb d_Pa_expression_206 (lv_at hl 1 rfl) ?_
                  refine lv_iload_n hx hb d_Pa_expression_208 rfl (lv_at hl 4 rfl) ?_
                  refine lv_iload_n hx hb d_Pa_expression_209 rfl (lv_at hl 5 rfl) ?_
                  refine mx_Vv (As := [.int (f_Tr_count (sTr st_1)), .int depth, .int inn]) (rest := []) ⟨hx, hb, hml, hown, hts0⟩ (m_Pa_commas l hlt dC dI cI cZ sa rk hp h a1 a2 a3 a4 ht hq n1 n2 fr0 lo0 E S F hRE hRS hRF hc ad_59 st_59 ok_59 _ (f_Tr_count (sTr st_1)) depth inn (fun z => hg (by unfold f_Pa_expression; rw [bnd_r w_1, if_pos c_2, if_pos c_3, if_pos c_4, if_pos c_5, if_neg c_6, bnd_r w_44, bnd_r w_45, if_neg c_46, bnd_r w_54, if_neg c_55, bnd_r w_58, bnd_r w_59, if_pos c_60, bnd_n z]))) hP hD hK hS hA hC hZ hnt hlocks L_707 L_709 L_33 L_87 L_710 k_Pa_commas ⟨(by show _ ≤ fr0 + 10; omega), (by show _ ≤ lo0 + 374; omega)⟩ rfl rfl hl.1 (Nat.le_of_ble_eq_true rfl) d_Pa_expression_210 rfl (fun q z => by unfold f_Pa_expression; rw [bnd_r w_1, if_pos c_2, if_pos c_3, if_pos c_4, if_pos c_5, if_neg c_6, bnd_r w_44, bnd_r w_45, if_neg c_46, bnd_r w_54, if_neg c_55, bnd_r w_58, bnd_r w_59, if_pos c_60, bnd_l z]) hcl hsl (fun ad_61 st_61 H locs w_61 ok_61 e1_61 e2_61 hP hD hS => ?_)
                  have hcl := cl_next hcl e1_61
                  have hsl := cl_next hsl e2_61
                  exact mx_vret (stF := st_61) hx hb hr hlocks hK hP hD hS hcl hsl (by unfold f_Pa_expression; rw [bnd_r w_1, if_pos c_2, if_pos c_3, if_pos c_4, if_pos c_5, if_neg c_6, bnd_r w_44, bnd_r w_45, if_neg c_46, bnd_r w_54, if_neg c_55, bnd_r w_58, bnd_r w_59, if_pos c_60, bnd_r w_61]) ok_61 d_Pa_expression_213
        · refine lv_aload_n hx hb d_Pa_expression_89 rfl (lv_at hl 2 rfl) ?_
          refine lv_iload_n hx hb d_Pa_expression_90 rfl (lv_at hl 4 rfl) ?_
          refine mx_Vv (As := [.int depth]) (rest := []) ⟨hx, hb, hml, hown, hts0⟩ (m_Pa_object l hlt dC dI cI cZ sa rk hp h a1 a2 a3 a4 ht hq n1 n2 fr0 lo0 E S F hRE hRS hRF hc ad_1 st_1 ok_1 _ depth (fun z => hg (by unfold f_Pa_expression; rw [bnd_r w_1, if_pos c_2, if_pos c_3, if_pos c_4, if_neg c_5, bnd_n z]))) hP hD hK hS hA hC hZ hnt hlocks L_599 L_601 L_18 L_87 L_602 k_Pa_object ⟨(by show _ ≤ fr0 + 10; omega), (by show _ ≤ lo0 + 374; omega)⟩ rfl rfl hl.1 (Nat.le_of_ble_eq_true rfl) d_Pa_expression_91 rfl (fun q z => by unfold f_Pa_expression; rw [bnd_r w_1, if_pos c_2, if_pos c_3, if_pos c_4, if_neg c_5, bnd_l z]) hcl hsl (fun ad_62 st_62 H locs w_62 ok_62 e1_62 e2_62 hP hD hS => ?_)
          have hcl := cl_next hcl e1_62
          have hsl := cl_next hsl e2_62
          refine lv_goto (tgt := 137) hx hb d_Pa_expression_94 (by decide) ?_
          refine lv_iload hx hb d_Pa_expression_137 (lv_at hl 0 rfl) ?_
          refine lv_iconst (v := (-1)) hx hb d_Pa_expression_139 (by decide) ?_
          refine lv_icmp_ne (tgt := 161) hx hb d_Pa_expression_140 (by decide) (fun q9 => absurd q9 (by decide)) (fun _ => ?_)
          refine lv_aload_n hx hb d_Pa_expression_143 rfl (lv_at hl 2 rfl) ?_
          refine lv_iload hx hb d_Pa_expression_144 (lv_at hl 1 rfl) ?_
          refine lv_iload_n hx hb d_Pa_expression_146 rfl (lv_at hl 4 rfl) ?_
          refine lv_iload_n hx hb d_Pa_expression_147 rfl (lv_at hl 3 rfl) ?_
          refine lv_bipush (v := 12) hx hb d_Pa_expression_148 (by decide) ?_
          refine lv_icmp_ge (tgt := 157) hx hb d_Pa_expression_150 (by decide) (fun _ => ?_) (fun q9 => absurd c_2 q9)
          refine lv_iconst (v := 0) hx hb d_Pa_expression_157 (by decide) ?_
          refine mx_Vv (As := [.int (f_Tr_count (sTr st_1)), .int depth, .int 0]) (rest := []) ⟨hx, hb, hml, hown, hts0⟩ (m_Pa_tails l hlt dC dI cI cZ sa rk hp h a1 a2 a3 a4 ht hq n1 n2 fr0 lo0 E S F hRE hRS hRF hc ad_62 st_62 ok_62 _ (f_Tr_count (sTr st_1)) depth 0 (fun z => hg (by unfold f_Pa_expression; rw [bnd_r w_1, if_pos c_2, if_pos c_3, if_pos c_4, if_neg c_5, bnd_r w_62, bnd_n z]))) hP hD hK hS hA hC hZ hnt hlocks L_661 L_663 L_27 L_87 L_664 k_Pa_tails ⟨(by show _ ≤ fr0 + 10; omega), (by show _ ≤ lo0 + 374; omega)⟩ rfl rfl hl.1 (Nat.le_of_ble_eq_true rfl) d_Pa_expression_158 rfl (fun q z => by unfold f_Pa_expression; rw [bnd_r w_1, if_pos c_2, if_pos c_3, if_pos c_4, if_neg c_5, bnd_r w_62, bnd_l z]) hcl hsl (fun ad_63 st_63 H locs w_63 ok_63 e1_63 e2_63 hP hD hS => ?_)
          have hcl := cl_next hcl e1_63
          have hsl := cl_next hsl e2_63
          refine lv_iload_n hx hb d_Pa_expression_161 rfl (lv_at hl 3 rfl) ?_
          refine lv_bipush (v := 10) hx hb d_Pa_expression_162 (by decide) ?_
          refine lv_icmp_gt (tgt := 180) hx hb d_Pa_expression_164 (by decide) (fun c_64 => ?_) (fun c_64 => ?_)
          · refine lv_iload_n hx hb d_Pa_expression_180 rfl (lv_at hl 3 rfl) ?_
            refine lv_if_gt (tgt := 200) hx hb d_Pa_expression_181 (by decide) (fun c_65 => ?_) (fun c_65 => ?_)
            · refine lv_iload_n hx hb d_Pa_expression_200 rfl (lv_at hl 3 rfl) ?_
              refine lv_iconst (v := (-1)) hx hb d_Pa_expression_201 (by decide) ?_
              refine lv_icmp_ne (tgt := 213) hx hb d_Pa_expression_202 (by decide) (fun c_66 => ?_) (fun c_66 => ?_)
              · exact mx_vret (stF := st_63) hx hb hr hlocks hK hP hD hS hcl hsl (by unfold f_Pa_expression; rw [bnd_r w_1, if_pos c_2, if_pos c_3, if_pos c_4, if_neg c_5, bnd_r w_62, bnd_r w_63, if_pos c_64, if_pos c_65, if_neg c_66]) ok_63 d_Pa_expression_213
              · refine lv_aload_n hx hb d_Pa_expression_205 rfl (lv_at hl 2 rfl) ?_
                refine lv_iload hx hb d_Pa_expression_206 (lv_at hl 1 rfl) ?_
                refine lv_iload_n hx hb d_Pa_expression_208 rfl (lv_at hl 4 rfl) ?_
                refine lv_iload_n hx hb d_Pa_expression_209 rfl (lv_at hl 5 rfl) ?_
                refine mx_Vv (As := [.int (f_Tr_count (sTr st_1)), .int depth, .int inn]) (rest := []) ⟨hx, hb, hml, hown, hts0⟩ (m_Pa_commas l hlt dC dI cI cZ sa rk hp h a1 a2 a3 a4 ht hq n1 n2 fr0 lo0 E S F hRE hRS hRF hc ad_63 st_63 ok_63 _ (f_Tr_count (sTr st_1)) depth inn (fun z => hg (by unfold f_Pa_expression; rw [bnd_r w_1, if_pos c_2, if_pos c_3, if_pos c_4, if_neg c_5, bnd_r w_62, bnd_r w_63, if_pos c_64, if_pos c_65, if_pos c_66, bnd_n z]))) hP hD hK hS hA hC hZ hnt hlocks L_707 L_709 L_33 L_87 L_710 k_Pa_commas ⟨(by show _ ≤ fr0 + 10; omega), (by show _ ≤ lo0 + 374; omega)⟩ rfl rfl hl.1 (Nat.le_of_ble_eq_true rfl) d_Pa_expression_210 rfl (fun q z => by unfold f_Pa_expression; rw [bnd_r w_1, if_pos c_2, if_pos c_3, if_pos c_4, if_neg c_5, bnd_r w_62, bnd_r w_63, if_pos c_64, if_pos c_65, if_pos c_66, bnd_l z]) hcl hsl (fun ad_67 st_67 H locs w_67 ok_67 e1_67 e2_67 hP hD hS => ?_)
                have hcl := cl_next hcl e1_67
                have hsl := cl_next hsl e2_67
                exact mx_vret (stF := st_67) hx hb hr hlocks hK hP hD hS hcl hsl (by unfold f_Pa_expression; rw [bnd_r w_1, if_pos c_2, if_pos c_3, if_pos c_4, if_neg c_5, bnd_r w_62, bnd_r w_63, if_pos c_64, if_pos c_65, if_pos c_66, bnd_r w_67]) ok_67 d_Pa_expression_213
            · refine lv_aload_n hx hb d_Pa_expression_184 rfl (lv_at hl 2 rfl) ?_
              refine lv_iload hx hb d_Pa_expression_185 (lv_at hl 1 rfl) ?_
              refine lv_iload_n hx hb d_Pa_expression_187 rfl (lv_at hl 4 rfl) ?_
              refine lv_iload_n hx hb d_Pa_expression_188 rfl (lv_at hl 5 rfl) ?_
              refine mx_Vv (As := [.int (f_Tr_count (sTr st_1)), .int depth, .int inn]) (rest := []) ⟨hx, hb, hml, hown, hts0⟩ (m_Pa_conditional l hlt dC dI cI cZ sa rk hp h a1 a2 a3 a4 ht hq n1 n2 fr0 lo0 E S F hRE hRS hRF hc ad_63 st_63 ok_63 _ (f_Tr_count (sTr st_1)) depth inn (fun z => hg (by unfold f_Pa_expression; rw [bnd_r w_1, if_pos c_2, if_pos c_3, if_pos c_4, if_neg c_5, bnd_r w_62, bnd_r w_63, if_pos c_64, if_neg c_65, bnd_n z]))) hP hD hK hS hA hC hZ hnt hlocks L_699 L_701 L_31 L_87 L_702 k_Pa_conditional ⟨(by show _ ≤ fr0 + 10; omega), (by show _ ≤ lo0 + 374; omega)⟩ rfl rfl hl.1 (Nat.le_of_ble_eq_true rfl) d_Pa_expression_189 rfl (fun q z => by unfold f_Pa_expression; rw [bnd_r w_1, if_pos c_2, if_pos c_3, if_pos c_4, if_neg c_5, bnd_r w_62, bnd_r w_63, if_pos c_64, if_neg c_65, bnd_l z]) hcl hsl (fun ad_68 st_68 H locs w_68 ok_68 e1_68 e2_68 hP hD hS => ?_)
              have hcl := cl_next hcl e1_68
              have hsl := cl_next hsl e2_68
              refine lv_aload_n hx hb d_Pa_expression_192 rfl (lv_at hl 2 rfl) ?_
              refine lv_iload hx hb d_Pa_expression_193 (lv_at hl 1 rfl) ?_
              refine lv_iload_n hx hb d_Pa_expression_195 rfl (lv_at hl 4 rfl) ?_
              refine lv_iload_n hx hb d_Pa_expression_196 rfl (lv_at hl 5 rfl) ?_
              refine mx_Vv (As := [.int (f_Tr_count (sTr st_1)), .int depth, .int inn]) (rest := []) ⟨hx, hb, hml, hown, hts0⟩ (m_Pa_assignment l hlt dC dI cI cZ sa rk hp h a1 a2 a3 a4 ht hq n1 n2 fr0 lo0 E S F hRE hRS hRF hc ad_68 st_68 ok_68 _ (f_Tr_count (sTr st_1)) depth inn (fun z => hg (by unfold f_Pa_expression; rw [bnd_r w_1, if_pos c_2, if_pos c_3, if_pos c_4, if_neg c_5, bnd_r w_62, bnd_r w_63, if_pos c_64, if_neg c_65, bnd_r w_68, bnd_n z]))) hP hD hK hS hA hC hZ hnt hlocks L_703 L_705 L_32 L_87 L_706 k_Pa_assignment ⟨(by show _ ≤ fr0 + 10; omega), (by show _ ≤ lo0 + 374; omega)⟩ rfl rfl hl.1 (Nat.le_of_ble_eq_true rfl) d_Pa_expression_197 rfl (fun q z => by unfold f_Pa_expression; rw [bnd_r w_1, if_pos c_2, if_pos c_3, if_pos c_4, if_neg c_5, bnd_r w_62, bnd_r w_63, if_pos c_64, if_neg c_65, bnd_r w_68, bnd_l z]) hcl hsl (fun ad_69 st_69 H locs w_69 ok_69 e1_69 e2_69 hP hD hS => ?_)
              have hcl := cl_next hcl e1_69
              have hsl := cl_next hsl e2_69
              refine lv_iload_n hx hb d_Pa_expression_200 rfl (lv_at hl 3 rfl) ?_
              refine lv_iconst (v := (-1)) hx hb d_Pa_expression_201 (by decide) ?_
              refine lv_icmp_ne (tgt := 213) hx hb d_Pa_expression_202 (by decide) (fun c_70 => ?_) (fun c_70 => ?_)
              · exact mx_vret (stF := st_69) hx hb hr hlocks hK hP hD hS hcl hsl (by unfold f_Pa_expression; rw [bnd_r w_1, if_pos c_2, if_pos c_3, if_pos c_4, if_neg c_5, bnd_r w_62, bnd_r w_63, if_pos c_64, if_neg c_65, bnd_r w_68, bnd_r w_69, if_neg c_70]) ok_69 d_Pa_expression_213
              · refine lv_aload_n hx hb d_Pa_expression_205 rfl (lv_at hl 2 rfl) ?_
                refine lv_iload hx hb d_Pa_expression_206 (lv_at hl 1 rfl) ?_
                refine lv_iload_n hx hb d_Pa_expression_208 rfl (lv_at hl 4 rfl) ?_
                refine lv_iload_n hx hb d_Pa_expression_209 rfl (lv_at hl 5 rfl) ?_
                refine mx_Vv (As := [.int (f_Tr_count (sTr st_1)), .int depth, .int inn]) (rest := []) ⟨hx, hb, hml, hown, hts0⟩ (m_Pa_commas l hlt dC dI cI cZ sa rk hp h a1 a2 a3 a4 ht hq n1 n2 fr0 lo0 E S F hRE hRS hRF hc ad_69 st_69 ok_69 _ (f_Tr_count (sTr st_1)) depth inn (fun z => hg (by unfold f_Pa_expression; rw [bnd_r w_1, if_pos c_2, if_pos c_3, if_pos c_4, if_neg c_5, bnd_r w_62, bnd_r w_63, if_pos c_64, if_neg c_65, bnd_r w_68, bnd_r w_69, if_pos c_70, bnd_n z]))) hP hD hK hS hA hC hZ hnt hlocks L_707 L_709 L_33 L_87 L_710 k_Pa_commas ⟨(by show _ ≤ fr0 + 10; omega), (by show _ ≤ lo0 + 374; omega)⟩ rfl rfl hl.1 (Nat.le_of_ble_eq_true rfl) d_Pa_expression_210 rfl (fun q z => by unfold f_Pa_expression; rw [bnd_r w_1, if_pos c_2, if_pos c_3, if_pos c_4, if_neg c_5, bnd_r w_62, bnd_r w_63, if_pos c_64, if_neg c_65, bnd_r w_68, bnd_r w_69, if_pos c_70, bnd_l z]) hcl hsl (fun ad_71 st_71 H locs w_71 ok_71 e1_71 e2_71 hP hD hS => ?_)
                have hcl := cl_next hcl e1_71
                have hsl := cl_next hsl e2_71
                exact mx_vret (stF := st_71) hx hb hr hlocks hK hP hD hS hcl hsl (by unfold f_Pa_expression; rw [bnd_r w_1, if_pos c_2, if_pos c_3, if_pos c_4, if_neg c_5, bnd_r w_62, bnd_r w_63, if_pos c_64, if_neg c_65, bnd_r w_68, bnd_r w_69, if_pos c_70, bnd_r w_71]) ok_71 d_Pa_expression_213
          · refine lv_aload_n hx hb d_Pa_expression_167 rfl (lv_at hl 2 rfl) ?_
            refine lv_iload hx hb d_Pa_expression_168 (lv_at hl 1 rfl) ?_
            refine lv_iload_n hx hb d_Pa_expression_170 rfl (lv_at hl 3 rfl) ?_
            refine lv_iconst (v := 1) hx hb d_Pa_expression_171 (by decide) ?_
            refine va_mmax hx hb (hml.trans hl.1.symm) hown (hts _ L_682) (hts _ L_637) (hts _ L_96) (hts _ L_638) (by show _ ≤ fr0 + 10; omega) (Nat.le_trans (m := 21) (Nat.le_of_ble_eq_true rfl) (by show _ ≤ lo0 + 374; omega)) (Nat.le_trans (Nat.le_add_right _ _) hcl) (Nat.le_trans (Nat.le_add_right _ _) hsl) d_Pa_expression_172 ?_
            refine lv_iload_n hx hb d_Pa_expression_175 rfl (lv_at hl 4 rfl) ?_
            refine lv_iload_n hx hb d_Pa_expression_176 rfl (lv_at hl 5 rfl) ?_
            refine mx_Vv (As := [.int (f_Tr_count (sTr st_1)), .int (if level < 1 then 1 else level), .int depth, .int inn]) (rest := []) ⟨hx, hb, hml, hown, hts0⟩ (m_Pa_binaries l hlt dC dI cI cZ sa rk hp h a1 a2 a3 a4 ht hq n1 n2 fr0 lo0 E S F hRE hRS hRF hc ad_63 st_63 ok_63 _ (f_Tr_count (sTr st_1)) (if level < 1 then 1 else level) depth inn (fun z => hg (by unfold f_Pa_expression; rw [bnd_r w_1, if_pos c_2, if_pos c_3, if_pos c_4, if_neg c_5, bnd_r w_62, bnd_r w_63, if_neg c_64, bnd_n z]))) hP hD hK hS hA hC hZ hnt hlocks L_683 L_685 L_30 L_87 L_686 k_Pa_binaries ⟨(by show _ ≤ fr0 + 10; omega), (by show _ ≤ lo0 + 374; omega)⟩ rfl rfl hl.1 (Nat.le_of_ble_eq_true rfl) d_Pa_expression_177 rfl (fun q z => by unfold f_Pa_expression; rw [bnd_r w_1, if_pos c_2, if_pos c_3, if_pos c_4, if_neg c_5, bnd_r w_62, bnd_r w_63, if_neg c_64, bnd_l z]) hcl hsl (fun ad_72 st_72 H locs w_72 ok_72 e1_72 e2_72 hP hD hS => ?_)
            have hcl := cl_next hcl e1_72
            have hsl := cl_next hsl e2_72
            refine lv_iload_n hx hb d_Pa_expression_180 rfl (lv_at hl 3 rfl) ?_
            refine lv_if_gt (tgt := 200) hx hb d_Pa_expression_181 (by decide) (fun c_73 => ?_) (fun c_73 => ?_)
            · refine lv_iload_n hx hb d_Pa_expression_200 rfl (lv_at hl 3 rfl) ?_
              refine lv_iconst (v := (-1)) hx hb d_Pa_expression_201 (by decide) ?_
              refine lv_icmp_ne (tgt := 213) hx hb d_Pa_expression_202 (by decide) (fun c_74 => ?_) (fun c_74 => ?_)
              · exact mx_vret (stF := st_72) hx hb hr hlocks hK hP hD hS hcl hsl (by unfold f_Pa_expression; rw [bnd_r w_1, if_pos c_2, if_pos c_3, if_pos c_4, if_neg c_5, bnd_r w_62, bnd_r w_63, if_neg c_64, bnd_r w_72, if_pos c_73, if_neg c_74]) ok_72 d_Pa_expression_213
              · refine lv_aload_n hx hb d_Pa_expression_205 rfl (lv_at hl 2 rfl) ?_
                refine lv_iload hx hb d_Pa_expression_206 (lv_at hl 1 rfl) ?_
                refine lv_iload_n hx hb d_Pa_expression_208 rfl (lv_at hl 4 rfl) ?_
                refine lv_iload_n hx hb d_Pa_expression_209 rfl (lv_at hl 5 rfl) ?_
                refine mx_Vv (As := [.int (f_Tr_count (sTr st_1)), .int depth, .int inn]) (rest := []) ⟨hx, hb, hml, hown, hts0⟩ (m_Pa_commas l hlt dC dI cI cZ sa rk hp h a1 a2 a3 a4 ht hq n1 n2 fr0 lo0 E S F hRE hRS hRF hc ad_72 st_72 ok_72 _ (f_Tr_count (sTr st_1)) depth inn (fun z => hg (by unfold f_Pa_expression; rw [bnd_r w_1, if_pos c_2, if_pos c_3, if_pos c_4, if_neg c_5, bnd_r w_62, bnd_r w_63, if_neg c_64, bnd_r w_72, if_pos c_73, if_pos c_74, bnd_n z]))) hP hD hK hS hA hC hZ hnt hlocks L_707 L_709 L_33 L_87 L_710 k_Pa_commas ⟨(by show _ ≤ fr0 + 10; omega), (by show _ ≤ lo0 + 374; omega)⟩ rfl rfl hl.1 (Nat.le_of_ble_eq_true rfl) d_Pa_expression_210 rfl (fun q z => by unfold f_Pa_expression; rw [bnd_r w_1, if_pos c_2, if_pos c_3, if_pos c_4, if_neg c_5, bnd_r w_62, bnd_r w_63, if_neg c_64, bnd_r w_72, if_pos c_73, if_pos c_74, bnd_l z]) hcl hsl (fun ad_75 st_75 H locs w_75 ok_75 e1_75 e2_75 hP hD hS => ?_)
                have hcl := cl_next hcl e1_75
                have hsl := cl_next hsl e2_75
                exact mx_vret (stF := st_75) hx hb hr hlocks hK hP hD hS hcl hsl (by unfold f_Pa_expression; rw [bnd_r w_1, if_pos c_2, if_pos c_3, if_pos c_4, if_neg c_5, bnd_r w_62, bnd_r w_63, if_neg c_64, bnd_r w_72, if_pos c_73, if_pos c_74, bnd_r w_75]) ok_75 d_Pa_expression_213
            · refine lv_aload_n hx hb d_Pa_expression_184 rfl (lv_at hl 2 rfl) ?_
              refine lv_iload hx hb d_Pa_expression_185 (lv_at hl 1 rfl) ?_
              refine lv_iload_n hx hb d_Pa_expression_187 rfl (lv_at hl 4 rfl) ?_
              refine lv_iload_n hx hb d_Pa_expression_188 rfl (lv_at hl 5 rfl) ?_
              refine mx_Vv (As := [.int (f_Tr_count (sTr st_1)), .int depth, .int inn]) (rest := []) ⟨hx, hb, hml, hown, hts0⟩ (m_Pa_conditional l hlt dC dI cI cZ sa rk hp h a1 a2 a3 a4 ht hq n1 n2 fr0 lo0 E S F hRE hRS hRF hc ad_72 st_72 ok_72 _ (f_Tr_count (sTr st_1)) depth inn (fun z => hg (by unfold f_Pa_expression; rw [bnd_r w_1, if_pos c_2, if_pos c_3, if_pos c_4, if_neg c_5, bnd_r w_62, bnd_r w_63, if_neg c_64, bnd_r w_72, if_neg c_73, bnd_n z]))) hP hD hK hS hA hC hZ hnt hlocks L_699 L_701 L_31 L_87 L_702 k_Pa_conditional ⟨(by show _ ≤ fr0 + 10; omega), (by show _ ≤ lo0 + 374; omega)⟩ rfl rfl hl.1 (Nat.le_of_ble_eq_true rfl) d_Pa_expression_189 rfl (fun q z => by unfold f_Pa_expression; rw [bnd_r w_1, if_pos c_2, if_pos c_3, if_pos c_4, if_neg c_5, bnd_r w_62, bnd_r w_63, if_neg c_64, bnd_r w_72, if_neg c_73, bnd_l z]) hcl hsl (fun ad_76 st_76 H locs w_76 ok_76 e1_76 e2_76 hP hD hS => ?_)
              have hcl := cl_next hcl e1_76
              have hsl := cl_next hsl e2_76
              refine lv_aload_n hx hb d_Pa_expression_192 rfl (lv_at hl 2 rfl) ?_
              refine lv_iload hx hb d_Pa_expression_193 (lv_at hl 1 rfl) ?_
              refine lv_iload_n hx hb d_Pa_expression_195 rfl (lv_at hl 4 rfl) ?_
              refine lv_iload_n hx hb d_Pa_expression_196 rfl (lv_at hl 5 rfl) ?_
              refine mx_Vv (As := [.int (f_Tr_count (sTr st_1)), .int depth, .int inn]) (rest := []) ⟨hx, hb, hml, hown, hts0⟩ (m_Pa_assignment l hlt dC dI cI cZ sa rk hp h a1 a2 a3 a4 ht hq n1 n2 fr0 lo0 E S F hRE hRS hRF hc ad_76 st_76 ok_76 _ (f_Tr_count (sTr st_1)) depth inn (fun z => hg (by unfold f_Pa_expression; rw [bnd_r w_1, if_pos c_2, if_pos c_3, if_pos c_4, if_neg c_5, bnd_r w_62, bnd_r w_63, if_neg c_64, bnd_r w_72, if_neg c_73, bnd_r w_76, bnd_n z]))) hP hD hK hS hA hC hZ hnt hlocks L_703 L_705 L_32 L_87 L_706 k_Pa_assignment ⟨(by show _ ≤ fr0 + 10; omega), (by show _ ≤ lo0 + 374; omega)⟩ rfl rfl hl.1 (Nat.le_of_ble_eq_true rfl) d_Pa_expression_197 rfl (fun q z => by unfold f_Pa_expression; rw [bnd_r w_1, if_pos c_2, if_pos c_3, if_pos c_4, if_neg c_5, bnd_r w_62, bnd_r w_63, if_neg c_64, bnd_r w_72, if_neg c_73, bnd_r w_76, bnd_l z]) hcl hsl (fun ad_77 st_77 H locs w_77 ok_77 e1_77 e2_77 hP hD hS => ?_)
              have hcl := cl_next hcl e1_77
              have hsl := cl_next hsl e2_77
              refine lv_iload_n hx hb d_Pa_expression_200 rfl (lv_at hl 3 rfl) ?_
              refine lv_iconst (v := (-1)) hx hb d_Pa_expression_201 (by decide) ?_
              refine lv_icmp_ne (tgt := 213) hx hb d_Pa_expression_202 (by decide) (fun c_78 => ?_) (fun c_78 => ?_)
              · exact mx_vret (stF := st_77) hx hb hr hlocks hK hP hD hS hcl hsl (by unfold f_Pa_expression; rw [bnd_r w_1, if_pos c_2, if_pos c_3, if_pos c_4, if_neg c_5, bnd_r w_62, bnd_r w_63, if_neg c_64, bnd_r w_72, if_neg c_73, bnd_r w_76, bnd_r w_77, if_neg c_78]) ok_77 d_Pa_expression_213
              · refine lv_aload_n hx hb d_Pa_expression_205 rfl (lv_at hl 2 rfl) ?_
                refine lv_iload hx hb d_Pa_expression_206 (lv_at hl 1 rfl) ?_
                refine lv_iload_n hx hb d_Pa_expression_208 rfl (lv_at hl 4 rfl) ?_
                refine lv_iload_n hx hb d_Pa_expression_209 rfl (lv_at hl 5 rfl) ?_
                refine mx_Vv (As := [.int (f_Tr_count (sTr st_1)), .int depth, .int inn]) (rest := []) ⟨hx, hb, hml, hown, hts0⟩ (m_Pa_commas l hlt dC dI cI cZ sa rk hp h a1 a2 a3 a4 ht hq n1 n2 fr0 lo0 E S F hRE hRS hRF hc ad_77 st_77 ok_77 _ (f_Tr_count (sTr st_1)) depth inn (fun z => hg (by unfold f_Pa_expression; rw [bnd_r w_1, if_pos c_2, if_pos c_3, if_pos c_4, if_neg c_5, bnd_r w_62, bnd_r w_63, if_neg c_64, bnd_r w_72, if_neg c_73, bnd_r w_76, bnd_r w_77, if_pos c_78, bnd_n z]))) hP hD hK hS hA hC hZ hnt hlocks L_707 L_709 L_33 L_87 L_710 k_Pa_commas ⟨(by show _ ≤ fr0 + 10; omega), (by show _ ≤ lo0 + 374; omega)⟩ rfl rfl hl.1 (Nat.le_of_ble_eq_true rfl) d_Pa_expression_210 rfl (fun q z => by unfold f_Pa_expression; rw [bnd_r w_1, if_pos c_2, if_pos c_3, if_pos c_4, if_neg c_5, bnd_r w_62, bnd_r w_63, if_neg c_64, bnd_r w_72, if_neg c_73, bnd_r w_76, bnd_r w_77, if_pos c_78, bnd_l z]) hcl hsl (fun ad_79 st_79 H locs w_79 ok_79 e1_79 e2_79 hP hD hS => ?_)
                have hcl := cl_next hcl e1_79
                have hsl := cl_next hsl e2_79
                exact mx_vret (stF := st_79) hx hb hr hlocks hK hP hD hS hcl hsl (by unfold f_Pa_expression; rw [bnd_r w_1, if_pos c_2, if_pos c_3, if_pos c_4, if_neg c_5, bnd_r w_62, bnd_r w_63, if_neg c_64, bnd_r w_72, if_neg c_73, bnd_r w_76, bnd_r w_77, if_pos c_78, bnd_r w_79]) ok_79 d_Pa_expression_213
      · refine lv_aload_n hx hb d_Pa_expression_72 rfl (lv_at hl 2 rfl) ?_
        refine lv_iload_n hx hb d_Pa_expression_73 rfl (lv_at hl 4 rfl) ?_
        refine mx_Vv (As := [.int depth]) (rest := []) ⟨hx, hb, hml, hown, hts0⟩ (m_Pa_array l hlt dC dI cI cZ sa rk hp h a1 a2 a3 a4 ht hq n1 n2 fr0 lo0 E S F hRE hRS hRF hc ad_1 st_1 ok_1 _ depth (fun z => hg (by unfold f_Pa_expression; rw [bnd_r w_1, if_pos c_2, if_pos c_3, if_neg c_4, bnd_n z]))) hP hD hK hS hA hC hZ hnt hlocks L_595 L_597 L_17 L_87 L_598 k_Pa_array ⟨(by show _ ≤ fr0 + 10; omega), (by show _ ≤ lo0 + 374; omega)⟩ rfl rfl hl.1 (Nat.le_of_ble_eq_true rfl) d_Pa_expression_74 rfl (fun q z => by unfold f_Pa_expression; rw [bnd_r w_1, if_pos c_2, if_pos c_3, if_neg c_4, bnd_l z]) hcl hsl (fun ad_80 st_80 H locs w_80 ok_80 e1_80 e2_80 hP hD hS => ?_)
        have hcl := cl_next hcl e1_80
        have hsl := cl_next hsl e2_80
        refine lv_goto (tgt := 137) hx hb d_Pa_expression_77 (by decide) ?_
        refine lv_iload hx hb d_Pa_expression_137 (lv_at hl 0 rfl) ?_
        refine lv_iconst (v := (-1)) hx hb d_Pa_expression_139 (by decide) ?_
        refine lv_icmp_ne (tgt := 161) hx hb d_Pa_expression_140 (by decide) (fun q9 => absurd q9 (by decide)) (fun _ => ?_)
        refine lv_aload_n hx hb d_Pa_expression_143 rfl (lv_at hl 2 rfl) ?_
        refine lv_iload hx hb d_Pa_expression_144 (lv_at hl 1 rfl) ?_
        refine lv_iload_n hx hb d_Pa_expression_146 rfl (lv_at hl 4 rfl) ?_
        refine lv_iload_n hx hb d_Pa_expression_147 rfl (lv_at hl 3 rfl) ?_
        refine lv_bipush (v := 12) hx hb d_Pa_expression_148 (by decide) ?_
        refine lv_icmp_ge (tgt := 157) hx hb d_Pa_expression_150 (by decide) (fun _ => ?_) (fun q9 => absurd c_2 q9)
        refine lv_iconst (v := 0) hx hb d_Pa_expression_157 (by decide) ?_
        refine mx_Vv (As := [.int (f_Tr_count (sTr st_1)), .int depth, .int 0]) (rest := []) ⟨hx, hb, hml, hown, hts0⟩ (m_Pa_tails l hlt dC dI cI cZ sa rk hp h a1 a2 a3 a4 ht hq n1 n2 fr0 lo0 E S F hRE hRS hRF hc ad_80 st_80 ok_80 _ (f_Tr_count (sTr st_1)) depth 0 (fun z => hg (by unfold f_Pa_expression; rw [bnd_r w_1, if_pos c_2, if_pos c_3, if_neg c_4, bnd_r w_80, bnd_n z]))) hP hD hK hS hA hC hZ hnt hlocks L_661 L_663 L_27 L_87 L_664 k_Pa_tails ⟨(by show _ ≤ fr0 + 10; omega), (by show _ ≤ lo0 + 374; omega)⟩ rfl rfl hl.1 (Nat.le_of_ble_eq_true rfl) d_Pa_expression_158 rfl (fun q z => by unfold f_Pa_expression; rw [bnd_r w_1, if_pos c_2, if_pos c_3, if_neg c_4, bnd_r w_80, bnd_l z]) hcl hsl (fun ad_81 st_81 H locs w_81 ok_81 e1_81 e2_81 hP hD hS => ?_)
        have hcl := cl_next hcl e1_81
        have hsl := cl_next hsl e2_81
        refine lv_iload_n hx hb d_Pa_expression_161 rfl (lv_at hl 3 rfl) ?_
        refine lv_bipush (v := 10) hx hb d_Pa_expression_162 (by decide) ?_
        refine lv_icmp_gt (tgt := 180) hx hb d_Pa_expression_164 (by decide) (fun c_82 => ?_) (fun c_82 => ?_)
        · refine lv_iload_n hx hb d_Pa_expression_180 rfl (lv_at hl 3 rfl) ?_
          refine lv_if_gt (tgt := 200) hx hb d_Pa_expression_181 (by decide) (fun c_83 => ?_) (fun c_83 => ?_)
          · refine lv_iload_n hx hb d_Pa_expression_200 rfl (lv_at hl 3 rfl) ?_
            refine lv_iconst (v := (-1)) hx hb d_Pa_expression_201 (by decide) ?_
            refine lv_icmp_ne (tgt := 213) hx hb d_Pa_expression_202 (by decide) (fun c_84 => ?_) (fun c_84 => ?_)
            · exact mx_vret (stF := st_81) hx hb hr hlocks hK hP hD hS hcl hsl (by unfold f_Pa_expression; rw [bnd_r w_1, if_pos c_2, if_pos c_3, if_neg c_4, bnd_r w_80, bnd_r w_81, if_pos c_82, if_pos c_83, if_neg c_84]) ok_81 d_Pa_expression_213
            · refine lv_aload_n hx hb d_Pa_expression_205 rfl (lv_at hl 2 rfl) ?_
              refine lv_iload hx hb d_Pa_expression_206 (lv_at hl 1 rfl) ?_
              refine lv_iload_n hx hb d_Pa_expression_208 rfl (lv_at hl 4 rfl) ?_
              refine lv_iload_n hx hb d_Pa_expression_209 rfl (lv_at hl 5 rfl) ?_
              refine mx_Vv (As := [.int (f_Tr_count (sTr st_1)), .int depth, .int inn]) (rest := []) ⟨hx, hb, hml, hown, hts0⟩ (m_Pa_commas l hlt dC dI cI cZ sa rk hp h a1 a2 a3 a4 ht hq n1 n2 fr0 lo0 E S F hRE hRS hRF hc ad_81 st_81 ok_81 _ (f_Tr_count (sTr st_1)) depth inn (fun z => hg (by unfold f_Pa_expression; rw [bnd_r w_1, if_pos c_2, if_pos c_3, if_neg c_4, bnd_r w_80, bnd_r w_81, if_pos c_82, if_pos c_83, if_pos c_84, bnd_n z]))) hP hD hK hS hA hC hZ hnt hlocks L_707 L_709 L_33 L_87 L_710 k_Pa_commas ⟨(by show _ ≤ fr0 + 10; omega), (by show _ ≤ lo0 + 374; omega)⟩ rfl rfl hl.1 (Nat.le_of_ble_eq_true rfl) d_Pa_expression_210 rfl (fun q z => by unfold f_Pa_expression; rw [bnd_r w_1, if_pos c_2, if_pos c_3, if_neg c_4, bnd_r w_80, bnd_r w_81, if_pos c_82, if_pos c_83, if_pos c_84, bnd_l z]) hcl hsl (fun ad_85 st_85 H locs w_85 ok_85 e1_85 e2_85 hP hD hS => ?_)
              have hcl := cl_next hcl e1_85
              have hsl := cl_next hsl e2_85
              exact mx_vret (stF := st_85) hx hb hr hlocks hK hP hD hS hcl hsl (by unfold f_Pa_expression; rw [bnd_r w_1, if_pos c_2, if_pos c_3, if_neg c_4, bnd_r w_80, bnd_r w_81, if_pos c_82, if_pos c_83, if_pos c_84, bnd_r w_85]) ok_85 d_Pa_expression_213
          · refine lv_aload_n hx hb d_Pa_expression_184 rfl (lv_at hl 2 rfl) ?_
            refine lv_iload hx hb d_Pa_expression_185 (lv_at hl 1 rfl) ?_
            refine lv_iload_n hx hb d_Pa_expression_187 rfl (lv_at hl 4 rfl) ?_
            refine lv_iload_n hx hb d_Pa_expression_188 rfl (lv_at hl 5 rfl) ?_
            refine mx_Vv (As := [.int (f_Tr_count (sTr st_1)), .int depth, .int inn]) (rest := []) ⟨hx, hb, hml, hown, hts0⟩ (m_Pa_conditional l hlt dC dI cI cZ sa rk hp h a1 a2 a3 a4 ht hq n1 n2 fr0 lo0 E S F hRE hRS hRF hc ad_81 st_81 ok_81 _ (f_Tr_count (sTr st_1)) depth inn (fun z => hg (by unfold f_Pa_expression; rw [bnd_r w_1, if_pos c_2, if_pos c_3, if_neg c_4, bnd_r w_80, bnd_r w_81, if_pos c_82, if_neg c_83, bnd_n z]))) hP hD hK hS hA hC hZ hnt hlocks L_699 L_701 L_31 L_87 L_702 k_Pa_conditional ⟨(by show _ ≤ fr0 + 10; omega), (by show _ ≤ lo0 + 374; omega)⟩ rfl rfl hl.1 (Nat.le_of_ble_eq_true rfl) d_Pa_expression_189 rfl (fun q z => by unfold f_Pa_expression; rw [bnd_r w_1, if_pos c_2, if_pos c_3, if_neg c_4, bnd_r w_80, bnd_r w_81, if_pos c_82, if_neg c_83, bnd_l z]) hcl hsl (fun ad_86 st_86 H locs w_86 ok_86 e1_86 e2_86 hP hD hS => ?_)
            have hcl := cl_next hcl e1_86
            have hsl := cl_next hsl e2_86
            refine lv_aload_n hx hb d_Pa_expression_192 rfl (lv_at hl 2 rfl) ?_
            refine lv_iload hx hb d_Pa_expression_193 (lv_at hl 1 rfl) ?_
            refine lv_iload_n hx hb d_Pa_expression_195 rfl (lv_at hl 4 rfl) ?_
            refine lv_iload_n hx hb d_Pa_expression_196 rfl (lv_at hl 5 rfl) ?_
            refine mx_Vv (As := [.int (f_Tr_count (sTr st_1)), .int depth, .int inn]) (rest := []) ⟨hx, hb, hml, hown, hts0⟩ (m_Pa_assignment l hlt dC dI cI cZ sa rk hp h a1 a2 a3 a4 ht hq n1 n2 fr0 lo0 E S F hRE hRS hRF hc ad_86 st_86 ok_86 _ (f_Tr_count (sTr st_1)) depth inn (fun z => hg (by unfold f_Pa_expression; rw [bnd_r w_1, if_pos c_2, if_pos c_3, if_neg c_4, bnd_r w_80, bnd_r w_81, if_pos c_82, if_neg c_83, bnd_r w_86, bnd_n z]))) hP hD hK hS hA hC hZ hnt hlocks L_703 L_705 L_32 L_87 L_706 k_Pa_assignment ⟨(by show _ ≤ fr0 + 10; omega), (by show _ ≤ lo0 + 374; omega)⟩ rfl rfl hl.1 (Nat.le_of_ble_eq_true rfl) d_Pa_expression_197 rfl (fun q z => by unfold f_Pa_expression; rw [bnd_r w_1, if_pos c_2, if_pos c_3, if_neg c_4, bnd_r w_80, bnd_r w_81, if_pos c_82, if_neg c_83, bnd_r w_86, bnd_l z]) hcl hsl (fun ad_87 st_87 H locs w_87 ok_87 e1_87 e2_87 hP hD hS => ?_)
            have hcl := cl_next hcl e1_87
            have hsl := cl_next hsl e2_87
            refine lv_iload_n hx hb d_Pa_expression_200 rfl (lv_at hl 3 rfl) ?_
            refine lv_iconst (v := (-1)) hx hb d_Pa_expression_201 (by decide) ?_
            refine lv_icmp_ne (tgt := 213) hx hb d_Pa_expression_202 (by decide) (fun c_88 => ?_) (fun c_88 => ?_)
            · exact mx_vret (stF := st_87) hx hb hr hlocks hK hP hD hS hcl hsl (by unfold f_Pa_expression; rw [bnd_r w_1, if_pos c_2, if_pos c_3, if_neg c_4, bnd_r w_80, bnd_r w_81, if_pos c_82, if_neg c_83, bnd_r w_86, bnd_r w_87, if_neg c_88]) ok_87 d_Pa_expression_213
            · refine lv_aload_n hx hb d_Pa_expression_205 rfl (lv_at hl 2 rfl) ?_
              refine lv_iload hx hb d_Pa_expression_206 (lv_at hl 1 rfl) ?_
              refine lv_iload_n hx hb d_Pa_expression_208 rfl (lv_at hl 4 rfl) ?_
              refine lv_iload_n hx hb d_Pa_expression_209 rfl (lv_at hl 5 rfl) ?_
              refine mx_Vv (As := [.int (f_Tr_count (sTr st_1)), .int depth, .int inn]) (rest := []) ⟨hx, hb, hml, hown, hts0⟩ (m_Pa_commas l hlt dC dI cI cZ sa rk hp h a1 a2 a3 a4 ht hq n1 n2 fr0 lo0 E S F hRE hRS hRF hc ad_87 st_87 ok_87 _ (f_Tr_count (sTr st_1)) depth inn (fun z => hg (by unfold f_Pa_expression; rw [bnd_r w_1, if_pos c_2, if_pos c_3, if_neg c_4, bnd_r w_80, bnd_r w_81, if_pos c_82, if_neg c_83, bnd_r w_86, bnd_r w_87, if_pos c_88, bnd_n z]))) hP hD hK hS hA hC hZ hnt hlocks L_707 L_709 L_33 L_87 L_710 k_Pa_commas ⟨(by show _ ≤ fr0 + 10; omega), (by show _ ≤ lo0 + 374; omega)⟩ rfl rfl hl.1 (Nat.le_of_ble_eq_true rfl) d_Pa_expression_210 rfl (fun q z => by unfold f_Pa_expression; rw [bnd_r w_1, if_pos c_2, if_pos c_3, if_neg c_4, bnd_r w_80, bnd_r w_81, if_pos c_82, if_neg c_83, bnd_r w_86, bnd_r w_87, if_pos c_88, bnd_l z]) hcl hsl (fun ad_89 st_89 H locs w_89 ok_89 e1_89 e2_89 hP hD hS => ?_)
              have hcl := cl_next hcl e1_89
              have hsl := cl_next hsl e2_89
              exact mx_vret (stF := st_89) hx hb hr hlocks hK hP hD hS hcl hsl (by unfold f_Pa_expression; rw [bnd_r w_1, if_pos c_2, if_pos c_3, if_neg c_4, bnd_r w_80, bnd_r w_81, if_pos c_82, if_neg c_83, bnd_r w_86, bnd_r w_87, if_pos c_88, bnd_r w_89]) ok_89 d_Pa_expression_213
        · refine lv_aload_n hx hb d_Pa_expression_167 rfl (lv_at hl 2 rfl) ?_
          refine lv_iload hx hb d_Pa_expression_168 (lv_at hl 1 rfl) ?_
          refine lv_iload_n hx hb d_Pa_expression_170 rfl (lv_at hl 3 rfl) ?_
          refine lv_iconst (v := 1) hx hb d_Pa_expression_171 (by decide) ?_
          refine va_mmax hx hb (hml.trans hl.1.symm) hown (hts _ L_682) (hts _ L_637) (hts _ L_96) (hts _ L_638) (by show _ ≤ fr0 + 10; omega) (Nat.le_trans (m := 21) (Nat.le_of_ble_eq_true rfl) (by show _ ≤ lo0 + 374; omega)) (Nat.le_trans (Nat.le_add_right _ _) hcl) (Nat.le_trans (Nat.le_add_right _ _) hsl) d_Pa_expression_172 ?_
          refine lv_iload_n hx hb d_Pa_expression_175 rfl (lv_at hl 4 rfl) ?_
          refine lv_iload_n hx hb d_Pa_expression_176 rfl (lv_at hl 5 rfl) ?_
          refine mx_Vv (As := [.int (f_Tr_count (sTr st_1)), .int (if level < 1 then 1 else level), .int depth, .int inn]) (rest := []) ⟨hx, hb, hml, hown, hts0⟩ (m_Pa_binaries l hlt dC dI cI cZ sa rk hp h a1 a2 a3 a4 ht hq n1 n2 fr0 lo0 E S F hRE hRS hRF hc ad_81 st_81 ok_81 _ (f_Tr_count (sTr st_1)) (if level < 1 then 1 else level) depth inn (fun z => hg (by unfold f_Pa_expression; rw [bnd_r w_1, if_pos c_2, if_pos c_3, if_neg c_4, bnd_r w_80, bnd_r w_81, if_neg c_82, bnd_n z]))) hP hD hK hS hA hC hZ hnt hlocks L_683 L_685 L_30 L_87 L_686 k_Pa_binaries ⟨(by show _ ≤ fr0 + 10; omega), (by show _ ≤ lo0 + 374; omega)⟩ rfl rfl hl.1 (Nat.le_of_ble_eq_true rfl) d_Pa_expression_177 rfl (fun q z => by unfold f_Pa_expression; rw [bnd_r w_1, if_pos c_2, if_pos c_3, if_neg c_4, bnd_r w_80, bnd_r w_81, if_neg c_82, bnd_l z]) hcl hsl (fun ad_90 st_90 H locs w_90 ok_90 e1_90 e2_90 hP hD hS => ?_)
          have hcl := cl_next hcl e1_90
          have hsl := cl_next hsl e2_90
          refine lv_iload_n hx hb d_Pa_expression_180 rfl (lv_at hl 3 rfl) ?_
          refine lv_if_gt (tgt := 200) hx hb d_Pa_expression_181 (by decide) (fun c_91 => ?_) (fun c_91 => ?_)
          · refine lv_iload_n hx hb d_Pa_expression_200 rfl (lv_at hl 3 rfl) ?_
            refine lv_iconst (v := (-1)) hx hb d_Pa_expression_201 (by decide) ?_
            refine lv_icmp_ne (tgt := 213) hx hb d_Pa_expression_202 (by decide) (fun c_92 => ?_) (fun c_92 => ?_)
            · exact mx_vret (stF := st_90) hx hb hr hlocks hK hP hD hS hcl hsl (by unfold f_Pa_expression; rw [bnd_r w_1, if_pos c_2, if_pos c_3, if_neg c_4, bnd_r w_80, bnd_r w_81, if_neg c_82, bnd_r w_90, if_pos c_91, if_neg c_92]) ok_90 d_Pa_expression_213
            · refine lv_aload_n hx hb d_Pa_expression_205 rfl (lv_at hl 2 rfl) ?_
              refine lv_iload hx hb d_Pa_expression_206 (lv_at hl 1 rfl) ?_
              refine lv_iload_n hx hb d_Pa_expression_208 rfl (lv_at hl 4 rfl) ?_
              refine lv_iload_n hx hb d_Pa_expression_209 rfl (lv_at hl 5 rfl) ?_
              refine mx_Vv (As := [.int (f_Tr_count (sTr st_1)), .int depth, .int inn]) (rest := []) ⟨hx, hb, hml, hown, hts0⟩ (m_Pa_commas l hlt dC dI cI cZ sa rk hp h a1 a2 a3 a4 ht hq n1 n2 fr0 lo0 E S F hRE hRS hRF hc ad_90 st_90 ok_90 _ (f_Tr_count (sTr st_1)) depth inn (fun z => hg (by unfold f_Pa_expression; rw [bnd_r w_1, if_pos c_2, if_pos c_3, if_neg c_4, bnd_r w_80, bnd_r w_81, if_neg c_82, bnd_r w_90, if_pos c_91, if_pos c_92, bnd_n z]))) hP hD hK hS hA hC hZ hnt hlocks L_707 L_709 L_33 L_87 L_710 k_Pa_commas ⟨(by show _ ≤ fr0 + 10; omega), (by show _ ≤ lo0 + 374; omega)⟩ rfl rfl hl.1 (Nat.le_of_ble_eq_true rfl) d_Pa_expression_210 rfl (fun q z => by unfold f_Pa_expression; rw [bnd_r w_1, if_pos c_2, if_pos c_3, if_neg c_4, bnd_r w_80, bnd_r w_81, if_neg c_82, bnd_r w_90, if_pos c_91, if_pos c_92, bnd_l z]) hcl hsl (fun ad_93 st_93 H locs w_93 ok_93 e1_93 e2_93 hP hD hS => ?_)
              have hcl := cl_next hcl e1_93
              have hsl := cl_next hsl e2_93
              exact mx_vret (stF := st_93) hx hb hr hlocks hK hP hD hS hcl hsl (by unfold f_Pa_expression; rw [bnd_r w_1, if_pos c_2, if_pos c_3, if_neg c_4, bnd_r w_80, bnd_r w_81, if_neg c_82, bnd_r w_90, if_pos c_91, if_pos c_92, bnd_r w_93]) ok_93 d_Pa_expression_213
          · refine lv_aload_n hx hb d_Pa_expression_184 rfl (lv_at hl 2 rfl) ?_
            refine lv_iload hx hb d_Pa_expression_185 (lv_at hl 1 rfl) ?_
            refine lv_iload_n hx hb d_Pa_expression_187 rfl (lv_at hl 4 rfl) ?_
            refine lv_iload_n hx hb d_Pa_expression_188 rfl (lv_at hl 5 rfl) ?_
            refine mx_Vv (As := [.int (f_Tr_count (sTr st_1)), .int depth, .int inn]) (rest := []) ⟨hx, hb, hml, hown, hts0⟩ (m_Pa_conditional l hlt dC dI cI cZ sa rk hp h a1 a2 a3 a4 ht hq n1 n2 fr0 lo0 E S F hRE hRS hRF hc ad_90 st_90 ok_90 _ (f_Tr_count (sTr st_1)) depth inn (fun z => hg (by unfold f_Pa_expression; rw [bnd_r w_1, if_pos c_2, if_pos c_3, if_neg c_4, bnd_r w_80, bnd_r w_81, if_neg c_82, bnd_r w_90, if_neg c_91, bnd_n z]))) hP hD hK hS hA hC hZ hnt hlocks L_699 L_701 L_31 L_87 L_702 k_Pa_conditional ⟨(by show _ ≤ fr0 + 10; omega), (by show _ ≤ lo0 + 374; omega)⟩ rfl rfl hl.1 (Nat.le_of_ble_eq_true rfl) d_Pa_expression_189 rfl (fun q z => by unfold f_Pa_expression; rw [bnd_r w_1, if_pos c_2, if_pos c_3, if_neg c_4, bnd_r w_80, bnd_r w_81, if_neg c_82, bnd_r w_90, if_neg c_91, bnd_l z]) hcl hsl (fun ad_94 st_94 H locs w_94 ok_94 e1_94 e2_94 hP hD hS => ?_)
            have hcl := cl_next hcl e1_94
            have hsl := cl_next hsl e2_94
            refine lv_aload_n hx hb d_Pa_expression_192 rfl (lv_at hl 2 rfl) ?_
            refine lv_iload hx hb d_Pa_expression_193 (lv_at hl 1 rfl) ?_
            refine lv_iload_n hx hb d_Pa_expression_195 rfl (lv_at hl 4 rfl) ?_
            refine lv_iload_n hx hb d_Pa_expression_196 rfl (lv_at hl 5 rfl) ?_
            refine mx_Vv (As := [.int (f_Tr_count (sTr st_1)), .int depth, .int inn]) (rest := []) ⟨hx, hb, hml, hown, hts0⟩ (m_Pa_assignment l hlt dC dI cI cZ sa rk hp h a1 a2 a3 a4 ht hq n1 n2 fr0 lo0 E S F hRE hRS hRF hc ad_94 st_94 ok_94 _ (f_Tr_count (sTr st_1)) depth inn (fun z => hg (by unfold f_Pa_expression; rw [bnd_r w_1, if_pos c_2, if_pos c_3, if_neg c_4, bnd_r w_80, bnd_r w_81, if_neg c_82, bnd_r w_90, if_neg c_91, bnd_r w_94, bnd_n z]))) hP hD hK hS hA hC hZ hnt hlocks L_703 L_705 L_32 L_87 L_706 k_Pa_assignment ⟨(by show _ ≤ fr0 + 10; omega), (by show _ ≤ lo0 + 374; omega)⟩ rfl rfl hl.1 (Nat.le_of_ble_eq_true rfl) d_Pa_expression_197 rfl (fun q z => by unfold f_Pa_expression; rw [bnd_r w_1, if_pos c_2, if_pos c_3, if_neg c_4, bnd_r w_80, bnd_r w_81, if_neg c_82, bnd_r w_90, if_neg c_91, bnd_r w_94, bnd_l z]) hcl hsl (fun ad_95 st_95 H locs w_95 ok_95 e1_95 e2_95 hP hD hS => ?_)
            have hcl := cl_next hcl e1_95
            have hsl := cl_next hsl e2_95
            refine lv_iload_n hx hb d_Pa_expression_200 rfl (lv_at hl 3 rfl) ?_
            refine lv_iconst (v := (-1)) hx hb d_Pa_expression_201 (by decide) ?_
            refine lv_icmp_ne (tgt := 213) hx hb d_Pa_expression_202 (by decide) (fun c_96 => ?_) (fun c_96 => ?_)
            · exact mx_vret (stF := st_95) hx hb hr hlocks hK hP hD hS hcl hsl (by unfold f_Pa_expression; rw [bnd_r w_1, if_pos c_2, if_pos c_3, if_neg c_4, bnd_r w_80, bnd_r w_81, if_neg c_82, bnd_r w_90, if_neg c_91, bnd_r w_94, bnd_r w_95, if_neg c_96]) ok_95 d_Pa_expression_213
            · refine lv_aload_n hx hb d_Pa_expression_205 rfl (lv_at hl 2 rfl) ?_
              refine lv_iload hx hb d_Pa_expression_206 (lv_at hl 1 rfl) ?_
              refine lv_iload_n hx hb d_Pa_expression_208 rfl (lv_at hl 4 rfl) ?_
              refine lv_iload_n hx hb d_Pa_expression_209 rfl (lv_at hl 5 rfl) ?_
              refine mx_Vv (As := [.int (f_Tr_count (sTr st_1)), .int depth, .int inn]) (rest := []) ⟨hx, hb, hml, hown, hts0⟩ (m_Pa_commas l hlt dC dI cI cZ sa rk hp h a1 a2 a3 a4 ht hq n1 n2 fr0 lo0 E S F hRE hRS hRF hc ad_95 st_95 ok_95 _ (f_Tr_count (sTr st_1)) depth inn (fun z => hg (by unfold f_Pa_expression; rw [bnd_r w_1, if_pos c_2, if_pos c_3, if_neg c_4, bnd_r w_80, bnd_r w_81, if_neg c_82, bnd_r w_90, if_neg c_91, bnd_r w_94, bnd_r w_95, if_pos c_96, bnd_n z]))) hP hD hK hS hA hC hZ hnt hlocks L_707 L_709 L_33 L_87 L_710 k_Pa_commas ⟨(by show _ ≤ fr0 + 10; omega), (by show _ ≤ lo0 + 374; omega)⟩ rfl rfl hl.1 (Nat.le_of_ble_eq_true rfl) d_Pa_expression_210 rfl (fun q z => by unfold f_Pa_expression; rw [bnd_r w_1, if_pos c_2, if_pos c_3, if_neg c_4, bnd_r w_80, bnd_r w_81, if_neg c_82, bnd_r w_90, if_neg c_91, bnd_r w_94, bnd_r w_95, if_pos c_96, bnd_l z]) hcl hsl (fun ad_97 st_97 H locs w_97 ok_97 e1_97 e2_97 hP hD hS => ?_)
              have hcl := cl_next hcl e1_97
              have hsl := cl_next hsl e2_97
              exact mx_vret (stF := st_97) hx hb hr hlocks hK hP hD hS hcl hsl (by unfold f_Pa_expression; rw [bnd_r w_1, if_pos c_2, if_pos c_3, if_neg c_4, bnd_r w_80, bnd_r w_81, if_neg c_82, bnd_r w_90, if_neg c_91, bnd_r w_94, bnd_r w_95, if_pos c_96, bnd_r w_97]) ok_97 d_Pa_expression_213
    · refine lv_aload_n hx hb d_Pa_expression_55 rfl (lv_at hl 2 rfl) ?_
      refine lv_iload_n hx hb d_Pa_expression_56 rfl (lv_at hl 4 rfl) ?_
      refine mx_Vv (As := [.int depth]) (rest := []) ⟨hx, hb, hml, hown, hts0⟩ (m_Pa_group l hlt dC dI cI cZ sa rk hp h a1 a2 a3 a4 ht hq n1 n2 fr0 lo0 E S F hRE hRS hRF hc ad_1 st_1 ok_1 _ depth (fun z => hg (by unfold f_Pa_expression; rw [bnd_r w_1, if_pos c_2, if_neg c_3, bnd_n z]))) hP hD hK hS hA hC hZ hnt hlocks L_591 L_593 L_16 L_87 L_594 k_Pa_group ⟨(by show _ ≤ fr0 + 10; omega), (by show _ ≤ lo0 + 374; omega)⟩ rfl rfl hl.1 (Nat.le_of_ble_eq_true rfl) d_Pa_expression_57 rfl (fun q z => by unfold f_Pa_expression; rw [bnd_r w_1, if_pos c_2, if_neg c_3, bnd_l z]) hcl hsl (fun ad_98 st_98 H locs w_98 ok_98 e1_98 e2_98 hP hD hS => ?_)
      have hcl := cl_next hcl e1_98
      have hsl := cl_next hsl e2_98
      refine lv_goto (tgt := 137) hx hb d_Pa_expression_60 (by decide) ?_
      refine lv_iload hx hb d_Pa_expression_137 (lv_at hl 0 rfl) ?_
      refine lv_iconst (v := (-1)) hx hb d_Pa_expression_139 (by decide) ?_
      refine lv_icmp_ne (tgt := 161) hx hb d_Pa_expression_140 (by decide) (fun q9 => absurd q9 (by decide)) (fun _ => ?_)
      refine lv_aload_n hx hb d_Pa_expression_143 rfl (lv_at hl 2 rfl) ?_
      refine lv_iload hx hb d_Pa_expression_144 (lv_at hl 1 rfl) ?_
      refine lv_iload_n hx hb d_Pa_expression_146 rfl (lv_at hl 4 rfl) ?_
      refine lv_iload_n hx hb d_Pa_expression_147 rfl (lv_at hl 3 rfl) ?_
      refine lv_bipush (v := 12) hx hb d_Pa_expression_148 (by decide) ?_
      refine lv_icmp_ge (tgt := 157) hx hb d_Pa_expression_150 (by decide) (fun _ => ?_) (fun q9 => absurd c_2 q9)
      refine lv_iconst (v := 0) hx hb d_Pa_expression_157 (by decide) ?_
      refine mx_Vv (As := [.int (f_Tr_count (sTr st_1)), .int depth, .int 0]) (rest := []) ⟨hx, hb, hml, hown, hts0⟩ (m_Pa_tails l hlt dC dI cI cZ sa rk hp h a1 a2 a3 a4 ht hq n1 n2 fr0 lo0 E S F hRE hRS hRF hc ad_98 st_98 ok_98 _ (f_Tr_count (sTr st_1)) depth 0 (fun z => hg (by unfold f_Pa_expression; rw [bnd_r w_1, if_pos c_2, if_neg c_3, bnd_r w_98, bnd_n z]))) hP hD hK hS hA hC hZ hnt hlocks L_661 L_663 L_27 L_87 L_664 k_Pa_tails ⟨(by show _ ≤ fr0 + 10; omega), (by show _ ≤ lo0 + 374; omega)⟩ rfl rfl hl.1 (Nat.le_of_ble_eq_true rfl) d_Pa_expression_158 rfl (fun q z => by unfold f_Pa_expression; rw [bnd_r w_1, if_pos c_2, if_neg c_3, bnd_r w_98, bnd_l z]) hcl hsl (fun ad_99 st_99 H locs w_99 ok_99 e1_99 e2_99 hP hD hS => ?_)
      have hcl := cl_next hcl e1_99
      have hsl := cl_next hsl e2_99
      refine lv_iload_n hx hb d_Pa_expression_161 rfl (lv_at hl 3 rfl) ?_
      refine lv_bipush (v := 10) hx hb d_Pa_expression_162 (by decide) ?_
      refine lv_icmp_gt (tgt := 180) hx hb d_Pa_expression_164 (by decide) (fun c_100 => ?_) (fun c_100 => ?_)
      · refine lv_iload_n hx hb d_Pa_expression_180 rfl (lv_at hl 3 rfl) ?_
        refine lv_if_gt (tgt := 200) hx hb d_Pa_expression_181 (by decide) (fun c_101 => ?_) (fun c_101 => ?_)
        · refine lv_iload_n hx hb d_Pa_expression_200 rfl (lv_at hl 3 rfl) ?_
          refine lv_iconst (v := (-1)) hx hb d_Pa_expression_201 (by decide) ?_
          refine lv_icmp_ne (tgt := 213) hx hb d_Pa_expression_202 (by decide) (fun c_102 => ?_) (fun c_102 => ?_)
          · exact mx_vret (stF := st_99) hx hb hr hlocks hK hP hD hS hcl hsl (by unfold f_Pa_expression; rw [bnd_r w_1, if_pos c_2, if_neg c_3, bnd_r w_98, bnd_r w_99, if_pos c_100, if_pos c_101, if_neg c_102]) ok_99 d_Pa_expression_213
          · refine lv_aload_n hx hb d_Pa_expression_205 rfl (lv_at hl 2 rfl) ?_
            refine lv_iload hx hb d_Pa_expression_206 (lv_at hl 1 rfl) ?_
            refine lv_iload_n hx hb d_Pa_expression_208 rfl (lv_at hl 4 rfl) ?_
            refine lv_iload_n hx hb d_Pa_expression_209 rfl (lv_at hl 5 rfl) ?_
            refine mx_Vv (As := [.int (f_Tr_count (sTr st_1)), .int depth, .int inn]) (rest := []) ⟨hx, hb, hml, hown, hts0⟩ (m_Pa_commas l hlt dC dI cI cZ sa rk hp h a1 a2 a3 a4 ht hq n1 n2 fr0 lo0 E S F hRE hRS hRF hc ad_99 st_99 ok_99 _ (f_Tr_count (sTr st_1)) depth inn (fun z => hg (by unfold f_Pa_expression; rw [bnd_r w_1, if_pos c_2, if_neg c_3, bnd_r w_98, bnd_r w_99, if_pos c_100, if_pos c_101, if_pos c_102, bnd_n z]))) hP hD hK hS hA hC hZ hnt hlocks L_707 L_709 L_33 L_87 L_710 k_Pa_commas ⟨(by show _ ≤ fr0 + 10; omega), (by show _ ≤ lo0 + 374; omega)⟩ rfl rfl hl.1 (Nat.le_of_ble_eq_true rfl) d_Pa_expression_210 rfl (fun q z => by unfold f_Pa_expression; rw [bnd_r w_1, if_pos c_2, if_neg c_3, bnd_r w_98, bnd_r w_99, if_pos c_100, if_pos c_101, if_pos c_102, bnd_l z]) hcl hsl (fun ad_103 st_103 H locs w_103 ok_103 e1_103 e2_103 hP hD hS => ?_)
            have hcl := cl_next hcl e1_103
            have hsl := cl_next hsl e2_103
            exact mx_vret (stF := st_103) hx hb hr hlocks hK hP hD hS hcl hsl (by unfold f_Pa_expression; rw [bnd_r w_1, if_pos c_2, if_neg c_3, bnd_r w_98, bnd_r w_99, if_pos c_100, if_pos c_101, if_pos c_102, bnd_r w_103]) ok_103 d_Pa_expression_213
        · refine lv_aload_n hx hb d_Pa_expression_184 rfl (lv_at hl 2 rfl) ?_
          refine lv_iload hx hb d_Pa_expression_185 (lv_at hl 1 rfl) ?_
          refine lv_iload_n hx hb d_Pa_expression_187 rfl (lv_at hl 4 rfl) ?_
          refine lv_iload_n hx hb d_Pa_expression_188 rfl (lv_at hl 5 rfl) ?_
          refine mx_Vv (As := [.int (f_Tr_count (sTr st_1)), .int depth, .int inn]) (rest := []) ⟨hx, hb, hml, hown, hts0⟩ (m_Pa_conditional l hlt dC dI cI cZ sa rk hp h a1 a2 a3 a4 ht hq n1 n2 fr0 lo0 E S F hRE hRS hRF hc ad_99 st_99 ok_99 _ (f_Tr_count (sTr st_1)) depth inn (fun z => hg (by unfold f_Pa_expression; rw [bnd_r w_1, if_pos c_2, if_neg c_3, bnd_r w_98, bnd_r w_99, if_pos c_100, if_neg c_101, bnd_n z]))) hP hD hK hS hA hC hZ hnt hlocks L_699 L_701 L_31 L_87 L_702 k_Pa_conditional ⟨(by show _ ≤ fr0 + 10; omega), (by show _ ≤ lo0 + 374; omega)⟩ rfl rfl hl.1 (Nat.le_of_ble_eq_true rfl) d_Pa_expression_189 rfl (fun q z => by unfold f_Pa_expression; rw [bnd_r w_1, if_pos c_2, if_neg c_3, bnd_r w_98, bnd_r w_99, if_pos c_100, if_neg c_101, bnd_l z]) hcl hsl (fun ad_104 st_104 H locs w_104 ok_104 e1_104 e2_104 hP hD hS => ?_)
          have hcl := cl_next hcl e1_104
          have hsl := cl_next hsl e2_104
          refine lv_aload_n hx hb d_Pa_expression_192 rfl (lv_at hl 2 rfl) ?_
          refine lv_iload hx hb d_Pa_expression_193 (lv_at hl 1 rfl) ?_
          refine lv_iload_n hx hb d_Pa_expression_195 rfl (lv_at hl 4 rfl) ?_
          refine lv_iload_n hx hb d_Pa_expression_196 rfl (lv_at hl 5 rfl) ?_
          refine mx_Vv (As := [.int (f_Tr_count (sTr st_1)), .int depth, .int inn]) (rest := []) ⟨hx, hb, hml, hown, hts0⟩ (m_Pa_assignment l hlt dC dI cI cZ sa rk hp h a1 a2 a3 a4 ht hq n1 n2 fr0 lo0 E S F hRE hRS hRF hc ad_104 st_104 ok_104 _ (f_Tr_count (sTr st_1)) depth inn (fun z => hg (by unfold f_Pa_expression; rw [bnd_r w_1, if_pos c_2, if_neg c_3, bnd_r w_98, bnd_r w_99, if_pos c_100, if_neg c_101, bnd_r w_104, bnd_n z]))) hP hD hK hS hA hC hZ hnt hlocks L_703 L_705 L_32 L_87 L_706 k_Pa_assignment ⟨(by show _ ≤ fr0 + 10; omega), (by show _ ≤ lo0 + 374; omega)⟩ rfl rfl hl.1 (Nat.le_of_ble_eq_true rfl) d_Pa_expression_197 rfl (fun q z => by unfold f_Pa_expression; rw [bnd_r w_1, if_pos c_2, if_neg c_3, bnd_r w_98, bnd_r w_99, if_pos c_100, if_neg c_101, bnd_r w_104, bnd_l z]) hcl hsl (fun ad_105 st_105 H locs w_105 ok_105 e1_105 e2_105 hP hD hS => ?_)
          have hcl := cl_next hcl e1_105
          have hsl := cl_next hsl e2_105
          refine lv_iload_n hx hb d_Pa_expression_200 rfl (lv_at hl 3 rfl) ?_
          refine lv_iconst (v := (-1)) hx hb d_Pa_expression_201 (by decide) ?_
          refine lv_icmp_ne (tgt := 213) hx hb d_Pa_expression_202 (by decide) (fun c_106 => ?_) (fun c_106 => ?_)
          · exact mx_vret (stF := st_105) hx hb hr hlocks hK hP hD hS hcl hsl (by unfold f_Pa_expression; rw [bnd_r w_1, if_pos c_2, if_neg c_3, bnd_r w_98, bnd_r w_99, if_pos c_100, if_neg c_101, bnd_r w_104, bnd_r w_105, if_neg c_106]) ok_105 d_Pa_expression_213
          · refine lv_aload_n hx hb d_Pa_expression_205 rfl (lv_at hl 2 rfl) ?_
            refine lv_iload hx hb d_Pa_expression_206 (lv_at hl 1 rfl) ?_
            refine lv_iload_n hx hb d_Pa_expression_208 rfl (lv_at hl 4 rfl) ?_
            refine lv_iload_n hx hb d_Pa_expression_209 rfl (lv_at hl 5 rfl) ?_
            refine mx_Vv (As := [.int (f_Tr_count (sTr st_1)), .int depth, .int inn]) (rest := []) ⟨hx, hb, hml, hown, hts0⟩ (m_Pa_commas l hlt dC dI cI cZ sa rk hp h a1 a2 a3 a4 ht hq n1 n2 fr0 lo0 E S F hRE hRS hRF hc ad_105 st_105 ok_105 _ (f_Tr_count (sTr st_1)) depth inn (fun z => hg (by unfold f_Pa_expression; rw [bnd_r w_1, if_pos c_2, if_neg c_3, bnd_r w_98, bnd_r w_99, if_pos c_100, if_neg c_101, bnd_r w_104, bnd_r w_105, if_pos c_106, bnd_n z]))) hP hD hK hS hA hC hZ hnt hlocks L_707 L_709 L_33 L_87 L_710 k_Pa_commas ⟨(by show _ ≤ fr0 + 10; omega), (by show _ ≤ lo0 + 374; omega)⟩ rfl rfl hl.1 (Nat.le_of_ble_eq_true rfl) d_Pa_expression_210 rfl (fun q z => by unfold f_Pa_expression; rw [bnd_r w_1, if_pos c_2, if_neg c_3, bnd_r w_98, bnd_r w_99, if_pos c_100, if_neg c_101, bnd_r w_104, bnd_r w_105, if_pos c_106, bnd_l z]) hcl hsl (fun ad_107 st_107 H locs w_107 ok_107 e1_107 e2_107 hP hD hS => ?_)
            have hcl := cl_next hcl e1_107
            have hsl := cl_next hsl e2_107
            exact mx_vret (stF := st_107) hx hb hr hlocks hK hP hD hS hcl hsl (by unfold f_Pa_expression; rw [bnd_r w_1, if_pos c_2, if_neg c_3, bnd_r w_98, bnd_r w_99, if_pos c_100, if_neg c_101, bnd_r w_104, bnd_r w_105, if_pos c_106, bnd_r w_107]) ok_107 d_Pa_expression_213
      · refine lv_aload_n hx hb d_Pa_expression_167 rfl (lv_at hl 2 rfl) ?_
        refine lv_iload hx hb d_Pa_expression_168 (lv_at hl 1 rfl) ?_
        refine lv_iload_n hx hb d_Pa_expression_170 rfl (lv_at hl 3 rfl) ?_
        refine lv_iconst (v := 1) hx hb d_Pa_expression_171 (by decide) ?_
        refine va_mmax hx hb (hml.trans hl.1.symm) hown (hts _ L_682) (hts _ L_637) (hts _ L_96) (hts _ L_638) (by show _ ≤ fr0 + 10; omega) (Nat.le_trans (m := 21) (Nat.le_of_ble_eq_true rfl) (by show _ ≤ lo0 + 374; omega)) (Nat.le_trans (Nat.le_add_right _ _) hcl) (Nat.le_trans (Nat.le_add_right _ _) hsl) d_Pa_expression_172 ?_
        refine lv_iload_n hx hb d_Pa_expression_175 rfl (lv_at hl 4 rfl) ?_
        refine lv_iload_n hx hb d_Pa_expression_176 rfl (lv_at hl 5 rfl) ?_
        refine mx_Vv (As := [.int (f_Tr_count (sTr st_1)), .int (if level < 1 then 1 else level), .int depth, .int inn]) (rest := []) ⟨hx, hb, hml, hown, hts0⟩ (m_Pa_binaries l hlt dC dI cI cZ sa rk hp h a1 a2 a3 a4 ht hq n1 n2 fr0 lo0 E S F hRE hRS hRF hc ad_99 st_99 ok_99 _ (f_Tr_count (sTr st_1)) (if level < 1 then 1 else level) depth inn (fun z => hg (by unfold f_Pa_expression; rw [bnd_r w_1, if_pos c_2, if_neg c_3, bnd_r w_98, bnd_r w_99, if_neg c_100, bnd_n z]))) hP hD hK hS hA hC hZ hnt hlocks L_683 L_685 L_30 L_87 L_686 k_Pa_binaries ⟨(by show _ ≤ fr0 + 10; omega), (by show _ ≤ lo0 + 374; omega)⟩ rfl rfl hl.1 (Nat.le_of_ble_eq_true rfl) d_Pa_expression_177 rfl (fun q z => by unfold f_Pa_expression; rw [bnd_r w_1, if_pos c_2, if_neg c_3, bnd_r w_98, bnd_r w_99, if_neg c_100, bnd_l z]) hcl hsl (fun ad_108 st_108 H locs w_108 ok_108 e1_108 e2_108 hP hD hS => ?_)
        have hcl := cl_next hcl e1_108
        have hsl := cl_next hsl e2_108
        refine lv_iload_n hx hb d_Pa_expression_180 rfl (lv_at hl 3 rfl) ?_
        refine lv_if_gt (tgt := 200) hx hb d_Pa_expression_181 (by decide) (fun c_109 => ?_) (fun c_109 => ?_)
        · refine lv_iload_n hx hb d_Pa_expression_200 rfl (lv_at hl 3 rfl) ?_
          refine lv_iconst (v := (-1)) hx hb d_Pa_expression_201 (by decide) ?_
          refine lv_icmp_ne (tgt := 213) hx hb d_Pa_expression_202 (by decide) (fun c_110 => ?_) (fun c_110 => ?_)
          · exact mx_vret (stF := st_108) hx hb hr hlocks hK hP hD hS hcl hsl (by unfold f_Pa_expression; rw [bnd_r w_1, if_pos c_2, if_neg c_3, bnd_r w_98, bnd_r w_99, if_neg c_100, bnd_r w_108, if_pos c_109, if_neg c_110]) ok_108 d_Pa_expression_213
          · refine lv_aload_n hx hb d_Pa_expression_205 rfl (lv_at hl 2 rfl) ?_
            refine lv_iload hx hb d_Pa_expression_206 (lv_at hl 1 rfl) ?_
            refine lv_iload_n hx hb d_Pa_expression_208 rfl (lv_at hl 4 rfl) ?_
            refine lv_iload_n hx hb d_Pa_expression_209 rfl (lv_at hl 5 rfl) ?_
            refine mx_Vv (As := [.int (f_Tr_count (sTr st_1)), .int depth, .int inn]) (rest := []) ⟨hx, hb, hml, hown, hts0⟩ (m_Pa_commas l hlt dC dI cI cZ sa rk hp h a1 a2 a3 a4 ht hq n1 n2 fr0 lo0 E S F hRE hRS hRF hc ad_108 st_108 ok_108 _ (f_Tr_count (sTr st_1)) depth inn (fun z => hg (by unfold f_Pa_expression; rw [bnd_r w_1, if_pos c_2, if_neg c_3, bnd_r w_98, bnd_r w_99, if_neg c_100, bnd_r w_108, if_pos c_109, if_pos c_110, bnd_n z]))) hP hD hK hS hA hC hZ hnt hlocks L_707 L_709 L_33 L_87 L_710 k_Pa_commas ⟨(by show _ ≤ fr0 + 10; omega), (by show _ ≤ lo0 + 374; omega)⟩ rfl rfl hl.1 (Nat.le_of_ble_eq_true rfl) d_Pa_expression_210 rfl (fun q z => by unfold f_Pa_expression; rw [bnd_r w_1, if_pos c_2, if_neg c_3, bnd_r w_98, bnd_r w_99, if_neg c_100, bnd_r w_108, if_pos c_109, if_pos c_110, bnd_l z]) hcl hsl (fun ad_111 st_111 H locs w_111 ok_111 e1_111 e2_111 hP hD hS => ?_)
            have hcl := cl_next hcl e1_111
            have hsl := cl_next hsl e2_111
            exact mx_vret (stF := st_111) hx hb hr hlocks hK hP hD hS hcl hsl (by unfold f_Pa_expression; rw [bnd_r w_1, if_pos c_2, if_neg c_3, bnd_r w_98, bnd_r w_99, if_neg c_100, bnd_r w_108, if_pos c_109, if_pos c_110, bnd_r w_111]) ok_111 d_Pa_expression_213
        · refine lv_aload_n hx hb d_Pa_expression_184 rfl (lv_at hl 2 rfl) ?_
          refine lv_iload hx hb d_Pa_expression_185 (lv_at hl 1 rfl) ?_
          refine lv_iload_n hx hb d_Pa_expression_187 rfl (lv_at hl 4 rfl) ?_
          refine lv_iload_n hx hb d_Pa_expression_188 rfl (lv_at hl 5 rfl) ?_
          refine mx_Vv (As := [.int (f_Tr_count (sTr st_1)), .int depth, .int inn]) (rest := []) ⟨hx, hb, hml, hown, hts0⟩ (m_Pa_conditional l hlt dC dI cI cZ sa rk hp h a1 a2 a3 a4 ht hq n1 n2 fr0 lo0 E S F hRE hRS hRF hc ad_108 st_108 ok_108 _ (f_Tr_count (sTr st_1)) depth inn (fun z => hg (by unfold f_Pa_expression; rw [bnd_r w_1, if_pos c_2, if_neg c_3, bnd_r w_98, bnd_r w_99, if_neg c_100, bnd_r w_108, if_neg c_109, bnd_n z]))) hP hD hK hS hA hC hZ hnt hlocks L_699 L_701 L_31 L_87 L_702 k_Pa_conditional ⟨(by show _ ≤ fr0 + 10; omega), (by show _ ≤ lo0 + 374; omega)⟩ rfl rfl hl.1 (Nat.le_of_ble_eq_true rfl) d_Pa_expression_189 rfl (fun q z => by unfold f_Pa_expression; rw [bnd_r w_1, if_pos c_2, if_neg c_3, bnd_r w_98, bnd_r w_99, if_neg c_100, bnd_r w_108, if_neg c_109, bnd_l z]) hcl hsl (fun ad_112 st_112 H locs w_112 ok_112 e1_112 e2_112 hP hD hS => ?_)
          have hcl := cl_next hcl e1_112
          have hsl := cl_next hsl e2_112
          refine lv_aload_n hx hb d_Pa_expression_192 rfl (lv_at hl 2 rfl) ?_
          refine lv_iload hx hb d_Pa_expression_193 (lv_at hl 1 rfl) ?_
          refine lv_iload_n hx hb d_Pa_expression_195 rfl (lv_at hl 4 rfl) ?_
          refine lv_iload_n hx hb d_Pa_expression_196 rfl (lv_at hl 5 rfl) ?_
          refine mx_Vv (As := [.int (f_Tr_count (sTr st_1)), .int depth, .int inn]) (rest := []) ⟨hx, hb, hml, hown, hts0⟩ (m_Pa_assignment l hlt dC dI cI cZ sa rk hp h a1 a2 a3 a4 ht hq n1 n2 fr0 lo0 E S F hRE hRS hRF hc ad_112 st_112 ok_112 _ (f_Tr_count (sTr st_1)) depth inn (fun z => hg (by unfold f_Pa_expression; rw [bnd_r w_1, if_pos c_2, if_neg c_3, bnd_r w_98, bnd_r w_99, if_neg c_100, bnd_r w_108, if_neg c_109, bnd_r w_112, bnd_n z]))) hP hD hK hS hA hC hZ hnt hlocks L_703 L_705 L_32 L_87 L_706 k_Pa_assignment ⟨(by show _ ≤ fr0 + 10; omega), (by show _ ≤ lo0 + 374; omega)⟩ rfl rfl hl.1 (Nat.le_of_ble_eq_true rfl) d_Pa_expression_197 rfl (fun q z => by unfold f_Pa_expression; rw [bnd_r w_1, if_pos c_2, if_neg c_3, bnd_r w_98, bnd_r w_99, if_neg c_100, bnd_r w_108, if_neg c_109, bnd_r w_112, bnd_l z]) hcl hsl (fun ad_113 st_113 H locs w_113 ok_113 e1_113 e2_113 hP hD hS => ?_)
          have hcl := cl_next hcl e1_113
          have hsl := cl_next hsl e2_113
          refine lv_iload_n hx hb d_Pa_expression_200 rfl (lv_at hl 3 rfl) ?_
          refine lv_iconst (v := (-1)) hx hb d_Pa_expression_201 (by decide) ?_
          refine lv_icmp_ne (tgt := 213) hx hb d_Pa_expression_202 (by decide) (fun c_114 => ?_) (fun c_114 => ?_)
          · exact mx_vret (stF := st_113) hx hb hr hlocks hK hP hD hS hcl hsl (by unfold f_Pa_expression; rw [bnd_r w_1, if_pos c_2, if_neg c_3, bnd_r w_98, bnd_r w_99, if_neg c_100, bnd_r w_108, if_neg c_109, bnd_r w_112, bnd_r w_113, if_neg c_114]) ok_113 d_Pa_expression_213
          · refine lv_aload_n hx hb d_Pa_expression_205 rfl (lv_at hl 2 rfl) ?_
            refine lv_iload hx hb d_Pa_expression_206 (lv_at hl 1 rfl) ?_
            refine lv_iload_n hx hb d_Pa_expression_208 rfl (lv_at hl 4 rfl) ?_
            refine lv_iload_n hx hb d_Pa_expression_209 rfl (lv_at hl 5 rfl) ?_
            refine mx_Vv (As := [.int (f_Tr_count (sTr st_1)), .int depth, .int inn]) (rest := []) ⟨hx, hb, hml, hown, hts0⟩ (m_Pa_commas l hlt dC dI cI cZ sa rk hp h a1 a2 a3 a4 ht hq n1 n2 fr0 lo0 E S F hRE hRS hRF hc ad_113 st_113 ok_113 _ (f_Tr_count (sTr st_1)) depth inn (fun z => hg (by unfold f_Pa_expression; rw [bnd_r w_1, if_pos c_2, if_neg c_3, bnd_r w_98, bnd_r w_99, if_neg c_100, bnd_r w_108, if_neg c_109, bnd_r w_112, bnd_r w_113, if_pos c_114, bnd_n z]))) hP hD hK hS hA hC hZ hnt hlocks L_707 L_709 L_33 L_87 L_710 k_Pa_commas ⟨(by show _ ≤ fr0 + 10; omega), (by show _ ≤ lo0 + 374; omega)⟩ rfl rfl hl.1 (Nat.le_of_ble_eq_true rfl) d_Pa_expression_210 rfl (fun q z => by unfold f_Pa_expression; rw [bnd_r w_1, if_pos c_2, if_neg c_3, bnd_r w_98, bnd_r w_99, if_neg c_100, bnd_r w_108, if_neg c_109, bnd_r w_112, bnd_r w_113, if_pos c_114, bnd_l z]) hcl hsl (fun ad_115 st_115 H locs w_115 ok_115 e1_115 e2_115 hP hD hS => ?_)
            have hcl := cl_next hcl e1_115
            have hsl := cl_next hsl e2_115
            exact mx_vret (stF := st_115) hx hb hr hlocks hK hP hD hS hcl hsl (by unfold f_Pa_expression; rw [bnd_r w_1, if_pos c_2, if_neg c_3, bnd_r w_98, bnd_r w_99, if_neg c_100, bnd_r w_108, if_neg c_109, bnd_r w_112, bnd_r w_113, if_pos c_114, bnd_r w_115]) ok_115 d_Pa_expression_213
  · refine lv_aload_n hx hb d_Pa_expression_20 rfl (lv_at hl 1 rfl) ?_
    refine rd_V (v := (f_Pa_prefixOperator st_1)) (As := []) (rest := []) ⟨hx, hb, hml, hown, hts0⟩ (m_Pa_prefixOperator l dC dI cI cZ hp hc h a1 a2 a3 a4 ht ad_1.1 ad_1.2.1 ad_1.2.2.1 ad_1.2.2.2 hq n1 n2 st_1 ok_1 ) hP hK [0, 1, 2, 3, 4, 5, 6, 7, 8, 9, 10, 11, 12, 13, 14] rfl [0, 1] rfl 0 2 rfl rfl L_573 L_575 L_13 L_87 L_576 ⟨rfl, k_Pa_prefixOperator⟩ ⟨(by show _ ≤ fr0 + 10; omega), (by show _ ≤ lo0 + 374; omega)⟩ hl.1 ⟨Nat.le_trans (Nat.le_add_right _ _) hcl, Nat.le_trans (Nat.le_add_right _ _) hsl⟩ (Nat.le_of_ble_eq_true rfl) d_Pa_expression_21 rfl ?_
    refine lv_goto (tgt := 28) hx hb d_Pa_expression_24 (by decide) ?_
    refine lv_istore (lv' := [(5, .int (f_Pa_prefixOperator st_1)), (4, .int (f_Tr_count (sTr st_1))), (0, .ref hp), (1, .int level), (2, .int depth), (3, .int inn)]) hx hb d_Pa_expression_28 hl (by decide) rfl (fun ls hl => ?_)
    refine lv_iload hx hb d_Pa_expression_30 (lv_at hl 0 rfl) ?_
    refine lv_iconst (v := (-1)) hx hb d_Pa_expression_32 (by decide) ?_
    refine lv_icmp_eq (tgt := 46) hx hb d_Pa_expression_33 (by decide) (fun c_116 => ?_) (fun c_116 => ?_)
    · refine lv_aload_n hx hb d_Pa_expression_46 rfl (lv_at hl 2 rfl) ?_
      refine lv_bipush (v := 60) hx hb d_Pa_expression_47 (by decide) ?_
      refine rd_U (xm := ⟨"SyntaxTree$Parser", "atSign", "(I)Z"⟩) (owner := R_Cu) (v := (f_Cu_atSign st_1 60)) (As := [.int 60]) (rest := []) ⟨hx, hb, hml, hown, hts0⟩ (m_Cu_atSign l dC dI cI cZ hp hc h a1 a2 a3 a4 ht ad_1.1 ad_1.2.1 ad_1.2.2.1 ad_1.2.2.2 hq n1 n2 st_1 ok_1 60) hP hK [0, 1, 2, 3, 4, 5, 6, 7, 8, 9, 10, 11, 12, 13, 14] rfl [0, 1] rfl 0 2 rfl rfl L_496 L_497 L_499 L_500 L_86 L_501 rfl k_Cu_atSign ⟨(by show _ ≤ fr0 + 10; omega), (by show _ ≤ lo0 + 374; omega)⟩ hl.1 ⟨Nat.le_trans (Nat.le_add_right _ _) hcl, Nat.le_trans (Nat.le_add_right _ _) hsl⟩ (Nat.le_of_ble_eq_true rfl) d_Pa_expression_49 rfl ?_
      refine lv_if_eq (tgt := 63) hx hb d_Pa_expression_52 (by decide) (fun c_117 => ?_) (fun c_117 => ?_)
      · refine lv_aload_n hx hb d_Pa_expression_63 rfl (lv_at hl 2 rfl) ?_
        refine lv_bipush (v := 62) hx hb d_Pa_expression_64 (by decide) ?_
        refine rd_U (xm := ⟨"SyntaxTree$Parser", "atSign", "(I)Z"⟩) (owner := R_Cu) (v := (f_Cu_atSign st_1 62)) (As := [.int 62]) (rest := []) ⟨hx, hb, hml, hown, hts0⟩ (m_Cu_atSign l dC dI cI cZ hp hc h a1 a2 a3 a4 ht ad_1.1 ad_1.2.1 ad_1.2.2.1 ad_1.2.2.2 hq n1 n2 st_1 ok_1 62) hP hK [0, 1, 2, 3, 4, 5, 6, 7, 8, 9, 10, 11, 12, 13, 14] rfl [0, 1] rfl 0 2 rfl rfl L_496 L_497 L_499 L_500 L_86 L_501 rfl k_Cu_atSign ⟨(by show _ ≤ fr0 + 10; omega), (by show _ ≤ lo0 + 374; omega)⟩ hl.1 ⟨Nat.le_trans (Nat.le_add_right _ _) hcl, Nat.le_trans (Nat.le_add_right _ _) hsl⟩ (Nat.le_of_ble_eq_true rfl) d_Pa_expression_66 rfl ?_
        refine lv_if_eq (tgt := 80) hx hb d_Pa_expression_69 (by decide) (fun c_118 => ?_) (fun c_118 => ?_)
        · refine lv_aload_n hx hb d_Pa_expression_80 rfl (lv_at hl 2 rfl) ?_
          refine lv_bipush (v := 64) hx hb d_Pa_expression_81 (by decide) ?_
          refine rd_U (xm := ⟨"SyntaxTree$Parser", "atSign", "(I)Z"⟩) (owner := R_Cu) (v := (f_Cu_atSign st_1 64)) (As := [.int 64]) (rest := []) ⟨hx, hb, hml, hown, hts0⟩ (m_Cu_atSign l dC dI cI cZ hp hc h a1 a2 a3 a4 ht ad_1.1 ad_1.2.1 ad_1.2.2.1 ad_1.2.2.2 hq n1 n2 st_1 ok_1 64) hP hK [0, 1, 2, 3, 4, 5, 6, 7, 8, 9, 10, 11, 12, 13, 14] rfl [0, 1] rfl 0 2 rfl rfl L_496 L_497 L_499 L_500 L_86 L_501 rfl k_Cu_atSign ⟨(by show _ ≤ fr0 + 10; omega), (by show _ ≤ lo0 + 374; omega)⟩ hl.1 ⟨Nat.le_trans (Nat.le_add_right _ _) hcl, Nat.le_trans (Nat.le_add_right _ _) hsl⟩ (Nat.le_of_ble_eq_true rfl) d_Pa_expression_83 rfl ?_
          refine lv_if_eq (tgt := 97) hx hb d_Pa_expression_86 (by decide) (fun c_119 => ?_) (fun c_119 => ?_)
          · refine lv_aload_n hx hb d_Pa_expression_97 rfl (lv_at hl 2 rfl) ?_
            refine lv_bipush (v := 11) hx hb d_Pa_expression_98 (by decide) ?_
            refine rd_U (xm := ⟨"SyntaxTree$Parser", "atWord", "(I)Z"⟩) (owner := R_Cu) (v := (f_Cu_atWord st_1 11)) (As := [.int 11]) (rest := []) ⟨hx, hb, hml, hown, hts0⟩ (m_Cu_atWord l dC dI cI cZ hp hc h a1 a2 a3 a4 ht ad_1.1 ad_1.2.1 ad_1.2.2.1 ad_1.2.2.2 hq n1 n2 st_1 ok_1 11) hP hK [0, 1, 2, 3, 4, 5, 6, 7, 8, 9, 10, 11, 12, 13, 14] rfl [0, 1] rfl 0 2 rfl rfl L_439 L_440 L_442 L_443 L_86 L_444 rfl k_Cu_atWord ⟨(by show _ ≤ fr0 + 10; omega), (by show _ ≤ lo0 + 374; omega)⟩ hl.1 ⟨Nat.le_trans (Nat.le_add_right _ _) hcl, Nat.le_trans (Nat.le_add_right _ _) hsl⟩ (Nat.le_of_ble_eq_true rfl) d_Pa_expression_100 rfl ?_
            refine lv_if_eq (tgt := 116) hx hb d_Pa_expression_103 (by decide) (fun c_120 => ?_) (fun c_120 => ?_)
            · refine lv_aload_n hx hb d_Pa_expression_116 rfl (lv_at hl 2 rfl) ?_
              refine lv_bipush (v := 15) hx hb d_Pa_expression_117 (by decide) ?_
              refine rd_U (xm := ⟨"SyntaxTree$Parser", "atWord", "(I)Z"⟩) (owner := R_Cu) (v := (f_Cu_atWord st_1 15)) (As := [.int 15]) (rest := []) ⟨hx, hb, hml, hown, hts0⟩ (m_Cu_atWord l dC dI cI cZ hp hc h a1 a2 a3 a4 ht ad_1.1 ad_1.2.1 ad_1.2.2.1 ad_1.2.2.2 hq n1 n2 st_1 ok_1 15) hP hK [0, 1, 2, 3, 4, 5, 6, 7, 8, 9, 10, 11, 12, 13, 14] rfl [0, 1] rfl 0 2 rfl rfl L_439 L_440 L_442 L_443 L_86 L_444 rfl k_Cu_atWord ⟨(by show _ ≤ fr0 + 10; omega), (by show _ ≤ lo0 + 374; omega)⟩ hl.1 ⟨Nat.le_trans (Nat.le_add_right _ _) hcl, Nat.le_trans (Nat.le_add_right _ _) hsl⟩ (Nat.le_of_ble_eq_true rfl) d_Pa_expression_119 rfl ?_
              refine lv_if_eq (tgt := 133) hx hb d_Pa_expression_122 (by decide) (fun c_121 => ?_) (fun c_121 => ?_)
              · refine lv_aload_n hx hb d_Pa_expression_133 rfl (lv_at hl 2 rfl) ?_
                refine mx_Vv (As := []) (rest := []) ⟨hx, hb, hml, hown, hts0⟩ (m_Pa_leaf l hlt dC dI cI cZ sa rk hp hc h a1 a2 a3 a4 ht hq n1 n2 ad_1 st_1 ok_1 _  (fun z => hg (by unfold f_Pa_expression; rw [bnd_r w_1, if_neg c_2, if_pos c_116, if_pos c_117, if_pos c_118, if_pos c_119, if_pos c_120, if_pos c_121, bnd_n z]))) hP hD hK hS hA hC hZ hnt hlocks L_643 L_645 L_24 L_87 L_646 k_Pa_leaf ⟨(by show _ ≤ fr0 + 10; omega), (by show _ ≤ lo0 + 374; omega)⟩ rfl rfl hl.1 (Nat.le_of_ble_eq_true rfl) d_Pa_expression_134 rfl (fun q z => by unfold f_Pa_expression; rw [bnd_r w_1, if_neg c_2, if_pos c_116, if_pos c_117, if_pos c_118, if_pos c_119, if_pos c_120, if_pos c_121, bnd_l z]) hcl hsl (fun ad_122 st_122 H locs w_122 ok_122 e1_122 e2_122 hP hD hS => ?_)
                have hcl := cl_next hcl e1_122
                have hsl := cl_next hsl e2_122
                refine lv_iload hx hb d_Pa_expression_137 (lv_at hl 0 rfl) ?_
                refine lv_iconst (v := (-1)) hx hb d_Pa_expression_139 (by decide) ?_
                refine lv_icmp_ne (tgt := 161) hx hb d_Pa_expression_140 (by decide) (fun q9 => absurd c_116 q9) (fun _ => ?_)
                refine lv_aload_n hx hb d_Pa_expression_143 rfl (lv_at hl 2 rfl) ?_
                refine lv_iload hx hb d_Pa_expression_144 (lv_at hl 1 rfl) ?_
                refine lv_iload_n hx hb d_Pa_expression_146 rfl (lv_at hl 4 rfl) ?_
                refine lv_iload_n hx hb d_Pa_expression_147 rfl (lv_at hl 3 rfl) ?_
                refine lv_bipush (v := 12) hx hb d_Pa_expression_148 (by decide) ?_
                refine lv_icmp_ge (tgt := 157) hx hb d_Pa_expression_150 (by decide) (fun q9 => absurd q9 c_2) (fun _ => ?_)
                refine lv_iconst (v := 1) hx hb d_Pa_expression_153 (by decide) ?_
                refine lv_goto (tgt := 158) hx hb d_Pa_expression_154 (by decide) ?_
                refine mx_Vv (As := [.int (f_Tr_count (sTr st_1)), .int depth, .int 1]) (rest := []) ⟨hx, hb, hml, hown, hts0⟩ (m_Pa_tails l hlt dC dI cI cZ sa rk hp h a1 a2 a3 a4 ht hq n1 n2 fr0 lo0 E S F hRE hRS hRF hc ad_122 st_122 ok_122 _ (f_Tr_count (sTr st_1)) depth 1 (fun z => hg (by unfold f_Pa_expression; rw [bnd_r w_1, if_neg c_2, if_pos c_116, if_pos c_117, if_pos c_118, if_pos c_119, if_pos c_120, if_pos c_121, bnd_r w_122, bnd_n z]))) hP hD hK hS hA hC hZ hnt hlocks L_661 L_663 L_27 L_87 L_664 k_Pa_tails ⟨(by show _ ≤ fr0 + 10; omega), (by show _ ≤ lo0 + 374; omega)⟩ rfl rfl hl.1 (Nat.le_of_ble_eq_true rfl) d_Pa_expression_158 rfl (fun q z => by unfold f_Pa_expression; rw [bnd_r w_1, if_neg c_2, if_pos c_116, if_pos c_117, if_pos c_118, if_pos c_119, if_pos c_120, if_pos c_121, bnd_r w_122, bnd_l z]) hcl hsl (fun ad_123 st_123 H locs w_123 ok_123 e1_123 e2_123 hP hD hS => ?_)
                have hcl := cl_next hcl e1_123
                have hsl := cl_next hsl e2_123
                refine lv_iload_n hx hb d_Pa_expression_161 rfl (lv_at hl 3 rfl) ?_
                refine lv_bipush (v := 10) hx hb d_Pa_expression_162 (by decide) ?_
                refine lv_icmp_gt (tgt := 180) hx hb d_Pa_expression_164 (by decide) (fun c_124 => ?_) (fun c_124 => ?_)
                · refine lv_iload_n hx hb d_Pa_expression_180 rfl (lv_at hl 3 rfl) ?_
                  refine lv_if_gt (tgt := 200) hx hb d_Pa_expression_181 (by decide) (fun c_125 => ?_) (fun c_125 => ?_)
                  · refine lv_iload_n hx hb d_Pa_expression_200 rfl (lv_at hl 3 rfl) ?_
                    refine lv_iconst (v := (-1)) hx hb d_Pa_expression_201 (by decide) ?_
                    refine lv_icmp_ne (tgt := 213) hx hb d_Pa_expression_202 (by decide) (fun c_126 => ?_) (fun c_126 => ?_)
                    · exact mx_vret (stF := st_123) hx hb hr hlocks hK hP hD hS hcl hsl (by unfold f_Pa_expression; rw [bnd_r w_1, if_neg c_2, if_pos c_116, if_pos c_117, if_pos c_118, if_pos c_119, if_pos c_120, if_pos c_121, bnd_r w_122, bnd_r w_123, if_pos c_124, if_pos c_125, if_neg c_126]) ok_123 d_Pa_expression_213
                    · refine lv_aload_n hx hb d_Pa_expression_205 rfl (lv_at hl 2 rfl) ?_
                      refine lv_iload hx hb d_Pa_expression_206 (lv_at hl 1 rfl) ?_
                      refine lv_iload_n hx hb d_Pa_expression_208 rfl (lv_at hl 4 rfl) ?_
                      refine lv_iload_n hx hb d_Pa_expression_209 rfl (lv_at hl 5 rfl) ?_
                      refine mx_Vv (As := [.int (f_Tr_count (sTr st_1)), .int depth, .int inn]) (rest := []) ⟨hx, hb, hml, hown, hts0⟩ (m_Pa_commas l hlt dC dI cI cZ sa rk hp h a1 a2 a3 a4 ht hq n1 n2 fr0 lo0 E S F hRE hRS hRF hc ad_123 st_123 ok_123 _ (f_Tr_count (sTr st_1)) depth inn (fun z => hg (by unfold f_Pa_expression; rw [bnd_r w_1, if_neg c_2, if_pos c_116, if_pos c_117, if_pos c_118, if_pos c_119, if_pos c_120, if_pos c_121, bnd_r w_122, bnd_r w_123, if_pos c_124, if_pos c_125, if_pos c_126, bnd_n z]))) hP hD hK hS hA hC hZ hnt hlocks L_707 L_709 L_33 L_87 L_710 k_Pa_commas ⟨(by show _ ≤ fr0 + 10; omega), (by show _ ≤ lo0 + 374; omega)⟩ rfl rfl hl.1 (Nat.le_of_ble_eq_true rfl) d_Pa_expression_210 rfl (fun q z => by unfold f_Pa_expression; rw [bnd_r w_1, if_neg c_2, if_pos c_116, if_pos c_117, if_pos c_118, if_pos c_119, if_pos c_120, if_pos c_121, bnd_r w_122, bnd_r w_123, if_pos c_124, if_pos c_125, if_pos c_126, bnd_l z]) hcl hsl (fun ad_127 st_127 H locs w_127 ok_127 e1_127 e2_127 hP hD hS => ?_)
                      have hcl := cl_next hcl e1_127
                      have hsl := cl_next hsl e2_127
                      exact mx_vret (stF := st_127) hx hb hr hlocks hK hP hD hS hcl hsl (by unfold f_Pa_expression; rw [bnd_r w_1, if_neg c_2, if_pos c_116, if_pos c_117, if_pos c_118, if_pos c_119, if_pos c_120, if_pos c_121, bnd_r w_122, bnd_r w_123, if_pos c_124, if_pos c_125, if_pos c_126, bnd_r w_127]) ok_127 d_Pa_expression_213
                  · refine lv_aload_n hx hb d_Pa_expression_184 rfl (lv_at hl 2 rfl) ?_
                    refine lv_iload hx hb d_Pa_expression_185 (lv_at hl 1 rfl) ?_
                    refine lv_iload_n hx hb d_Pa_expression_187 rfl (lv_at hl 4 rfl) ?_
                    refine lv_iload_n hx hb d_Pa_expression_188 rfl (lv_at hl 5 rfl) ?_
                    refine mx_Vv (As := [.int (f_Tr_count (sTr st_1)), .int depth, .int inn]) (rest := []) ⟨hx, hb, hml, hown, hts0⟩ (m_Pa_conditional l hlt dC dI cI cZ sa rk hp h a1 a2 a3 a4 ht hq n1 n2 fr0 lo0 E S F hRE hRS hRF hc ad_123 st_123 ok_123 _ (f_Tr_count (sTr st_1)) depth inn (fun z => hg (by unfold f_Pa_expression; rw [bnd_r w_1, if_neg c_2, if_pos c_116, if_pos c_117, if_pos c_118, if_pos c_119, if_pos c_120, if_pos c_121, bnd_r w_122, bnd_r w_123, if_pos c_124, if_neg c_125, bnd_n z]))) hP hD hK hS hA hC hZ hnt hlocks L_699 L_701 L_31 L_87 L_702 k_Pa_conditional ⟨(by show _ ≤ fr0 + 10; omega), (by show _ ≤ lo0 + 374; omega)⟩ rfl rfl hl.1 (Nat.le_of_ble_eq_true rfl) d_Pa_expression_189 rfl (fun q z => by unfold f_Pa_expression; rw [bnd_r w_1, if_neg c_2, if_pos c_116, if_pos c_117, if_pos c_118, if_pos c_119, if_pos c_120, if_pos c_121, bnd_r w_122, bnd_r w_123, if_pos c_124, if_neg c_125, bnd_l z]) hcl hsl (fun ad_128 st_128 H locs w_128 ok_128 e1_128 e2_128 hP hD hS => ?_)
                    have hcl := cl_next hcl e1_128
                    have hsl := cl_next hsl e2_128
                    refine lv_aload_n hx hb d_Pa_expression_192 rfl (lv_at hl 2 rfl) ?_
                    refine lv_iload hx hb d_Pa_expression_193 (lv_at hl 1 rfl) ?_
                    refine lv_iload_n hx hb d_Pa_expression_195 rfl (lv_at hl 4 rfl) ?_
                    refine lv_iload_n hx hb d_Pa_expression_196 rfl (lv_at hl 5 rfl) ?_
                    refine mx_Vv (As := [.int (f_Tr_count (sTr st_1)), .int depth, .int inn]) (rest := []) ⟨hx, hb, hml, hown, hts0⟩ (m_Pa_assignment l hlt dC dI cI cZ sa rk hp h a1 a2 a3 a4 ht hq n1 n2 fr0 lo0 E S F hRE hRS hRF hc ad_128 st_128 ok_128 _ (f_Tr_count (sTr st_1)) depth inn (fun z => hg (by unfold f_Pa_expression; rw [bnd_r w_1, if_neg c_2, if_pos c_116, if_pos c_117, if_pos c_118, if_pos c_119, if_pos c_120, if_pos c_121, bnd_r w_122, bnd_r w_123, if_pos c_124, if_neg c_125, bnd_r w_128, bnd_n z]))) hP hD hK hS hA hC hZ hnt hlocks L_703 L_705 L_32 L_87 L_706 k_Pa_assignment ⟨(by show _ ≤ fr0 + 10; omega), (by show _ ≤ lo0 + 374; omega)⟩ rfl rfl hl.1 (Nat.le_of_ble_eq_true rfl) d_Pa_expression_197 rfl (fun q z => by unfold f_Pa_expression; rw [bnd_r w_1, if_neg c_2, if_pos c_116, if_pos c_117, if_pos c_118, if_pos c_119, if_pos c_120, if_pos c_121, bnd_r w_122, bnd_r w_123, if_pos c_124, if_neg c_125, bnd_r w_128, bnd_l z]) hcl hsl (fun ad_129 st_129 H locs w_129 ok_129 e1_129 e2_129 hP hD hS => ?_)
                    have hcl := cl_next hcl e1_129
                    have hsl := cl_next hsl e2_129
                    refine lv_iload_n hx hb d_Pa_expression_200 rfl (lv_at hl 3 rfl) ?_
                    refine lv_iconst (v := (-1)) hx hb d_Pa_expression_201 (by decide) ?_
                    refine lv_icmp_ne (tgt := 213) hx hb d_Pa_expression_202 (by decide) (fun c_130 => ?_) (fun c_130 => ?_)
                    · exact mx_vret (stF := st_129) hx hb hr hlocks hK hP hD hS hcl hsl (by unfold f_Pa_expression; rw [bnd_r w_1, if_neg c_2, if_pos c_116, if_pos c_117, if_pos c_118, if_pos c_119, if_pos c_120, if_pos c_121, bnd_r w_122, bnd_r w_123, if_pos c_124, if_neg c_125, bnd_r w_128, bnd_r w_129, if_neg c_130]) ok_129 d_Pa_expression_213
                    · refine lv_aload_n hx hb d_Pa_expression_205 rfl (lv_at hl 2 rfl) ?_
                      refine lv_iload hx hb d_Pa_expression_206 (lv_at hl 1 rfl) ?_
                      refine lv_iload_n hx hb d_Pa_expression_208 rfl (lv_at hl 4 rfl) ?_
                      refine lv_iload_n hx hb d_Pa_expression_209 rfl (lv_at hl 5 rfl) ?_
                      refine mx_Vv (As := [.int (f_Tr_count (sTr st_1)), .int depth, .int inn]) (rest := []) ⟨hx, hb, hml, hown, hts0⟩ (m_Pa_commas l hlt dC dI cI cZ sa rk hp h a1 a2 a3 a4 ht hq n1 n2 fr0 lo0 E S F hRE hRS hRF hc ad_129 st_129 ok_129 _ (f_Tr_count (sTr st_1)) depth inn (fun z => hg (by unfold f_Pa_expression; rw [bnd_r w_1, if_neg c_2, if_pos c_116, if_pos c_117, if_pos c_118, if_pos c_119, if_pos c_120, if_pos c_121, bnd_r w_122, bnd_r w_123, if_pos c_124, if_neg c_125, bnd_r w_128, bnd_r w_129, if_pos c_130, bnd_n z]))) hP hD hK hS hA hC hZ hnt hlocks L_707 L_709 L_33 L_87 L_710 k_Pa_commas ⟨(by show _ ≤ fr0 + 10; omega), (by show _ ≤ lo0 + 374; omega)⟩ rfl rfl hl.1 (Nat.le_of_ble_eq_true rfl) d_Pa_expression_210 rfl (fun q z => by unfold f_Pa_expression; rw [bnd_r w_1, if_neg c_2, if_pos c_116, if_pos c_117, if_pos c_118, if_pos c_119, if_pos c_120, if_pos c_121, bnd_r w_122, bnd_r w_123, if_pos c_124, if_neg c_125, bnd_r w_128, bnd_r w_129, if_pos c_130, bnd_l z]) hcl hsl (fun ad_131 st_131 H locs w_131 ok_131 e1_131 e2_131 hP hD hS => ?_)
                      have hcl := cl_next hcl e1_131
                      have hsl := cl_next hsl e2_131
                      exact mx_vret (stF := st_131) hx hb hr hlocks hK hP hD hS hcl hsl (by unfold f_Pa_expression; rw [bnd_r w_1, if_neg c_2, if_pos c_116, if_pos c_117, if_pos c_118, if_pos c_119, if_pos c_120, if_pos c_121, bnd_r w_122, bnd_r w_123, if_pos c_124, if_neg c_125, bnd_r w_128, bnd_r w_129, if_pos c_130, bnd_r w_131]) ok_131 d_Pa_expression_213
                · refine lv_aload_n hx hb d_Pa_expression_167 rfl (lv_at hl 2 rfl) ?_
                  refine lv_iload hx hb d_Pa_expression_168 (lv_at hl 1 rfl) ?_
                  refine lv_iload_n hx hb d_Pa_expression_170 rfl (lv_at hl 3 rfl) ?_
                  refine lv_iconst (v := 1) hx hb d_Pa_expression_171 (by decide) ?_
                  refine va_mmax hx hb (hml.trans hl.1.symm) hown (hts _ L_682) (hts _ L_637) (hts _ L_96) (hts _ L_638) (by show _ ≤ fr0 + 10; omega) (Nat.le_trans (m := 21) (Nat.le_of_ble_eq_true rfl) (by show _ ≤ lo0 + 374; omega)) (Nat.le_trans (Nat.le_add_right _ _) hcl) (Nat.le_trans (Nat.le_add_right _ _) hsl) d_Pa_expression_172 ?_
                  refine lv_iload_n hx hb d_Pa_expression_175 rfl (lv_at hl 4 rfl) ?_
                  refine lv_iload_n hx hb d_Pa_expression_176 rfl (lv_at hl 5 rfl) ?_
                  refine mx_Vv (As := [.int (f_Tr_count (sTr st_1)), .int (if level < 1 then 1 else level), .int depth, .int inn]) (rest := []) ⟨hx, hb, hml, hown, hts0⟩ (m_Pa_binaries l hlt dC dI cI cZ sa rk hp h a1 a2 a3 a4 ht hq n1 n2 fr0 lo0 E S F hRE hRS hRF hc ad_123 st_123 ok_123 _ (f_Tr_count (sTr st_1)) (if level < 1 then 1 else level) depth inn (fun z => hg (by unfold f_Pa_expression; rw [bnd_r w_1, if_neg c_2, if_pos c_116, if_pos c_117, if_pos c_118, if_pos c_119, if_pos c_120, if_pos c_121, bnd_r w_122, bnd_r w_123, if_neg c_124, bnd_n z]))) hP hD hK hS hA hC hZ hnt hlocks L_683 L_685 L_30 L_87 L_686 k_Pa_binaries ⟨(by show _ ≤ fr0 + 10; omega), (by show _ ≤ lo0 + 374; omega)⟩ rfl rfl hl.1 (Nat.le_of_ble_eq_true rfl) d_Pa_expression_177 rfl (fun q z => by unfold f_Pa_expression; rw [bnd_r w_1, if_neg c_2, if_pos c_116, if_pos c_117, if_pos c_118, if_pos c_119, if_pos c_120, if_pos c_121, bnd_r w_122, bnd_r w_123, if_neg c_124, bnd_l z]) hcl hsl (fun ad_132 st_132 H locs w_132 ok_132 e1_132 e2_132 hP hD hS => ?_)
                  have hcl := cl_next hcl e1_132
                  have hsl := cl_next hsl e2_132
                  refine lv_iload_n hx hb d_Pa_expression_180 rfl (lv_at hl 3 rfl) ?_
                  refine lv_if_gt (tgt := 200) hx hb d_Pa_expression_181 (by decide) (fun c_133 => ?_) (fun c_133 => ?_)
                  · refine lv_iload_n hx hb d_Pa_expression_200 rfl (lv_at hl 3 rfl) ?_
                    refine lv_iconst (v := (-1)) hx hb d_Pa_expression_201 (by decide) ?_
                    refine lv_icmp_ne (tgt := 213) hx hb d_Pa_expression_202 (by decide) (fun c_134 => ?_) (fun c_134 => ?_)
                    · exact mx_vret (stF := st_132) hx hb hr hlocks hK hP hD hS hcl hsl (by unfold f_Pa_expression; rw [bnd_r w_1, if_neg c_2, if_pos c_116, if_pos c_117, if_pos c_118, if_pos c_119, if_pos c_120, if_pos c_121, bnd_r w_122, bnd_r w_123, if_neg c_124, bnd_r w_132, if_pos c_133, if_neg c_134]) ok_132 d_Pa_expression_213
                    · refine lv_aload_n hx hb d_Pa_expression_205 rfl (lv_at hl 2 rfl) ?_
                      refine lv_iload hx hb d_Pa_expression_206 (lv_at hl 1 rfl) ?_
                      refine lv_iload_n hx hb d_Pa_expression_208 rfl (lv_at hl 4 rfl) ?_
                      refine lv_iload_n hx hb d_Pa_expression_209 rfl (lv_at hl 5 rfl) ?_
                      refine mx_Vv (As := [.int (f_Tr_count (sTr st_1)), .int depth, .int inn]) (rest := []) ⟨hx, hb, hml, hown, hts0⟩ (m_Pa_commas l hlt dC dI cI cZ sa rk hp h a1 a2 a3 a4 ht hq n1 n2 fr0 lo0 E S F hRE hRS hRF hc ad_132 st_132 ok_132 _ (f_Tr_count (sTr st_1)) depth inn (fun z => hg (by unfold f_Pa_expression; rw [bnd_r w_1, if_neg c_2, if_pos c_116, if_pos c_117, if_pos c_118, if_pos c_119, if_pos c_120, if_pos c_121, bnd_r w_122, bnd_r w_123, if_neg c_124, bnd_r w_132, if_pos c_133, if_pos c_134, bnd_n z]))) hP hD hK hS hA hC hZ hnt hlocks L_707 L_709 L_33 L_87 L_710 k_Pa_commas ⟨(by show _ ≤ fr0 + 10; omega), (by show _ ≤ lo0 + 374; omega)⟩ rfl rfl hl.1 (Nat.le_of_ble_eq_true rfl) d_Pa_expression_210 rfl (fun q z => by unfold f_Pa_expression; rw [bnd_r w_1, if_neg c_2, if_pos c_116, if_pos c_117, if_pos c_118, if_pos c_119, if_pos c_120, if_pos c_121, bnd_r w_122, bnd_r w_123, if_neg c_124, bnd_r w_132, if_pos c_133, if_pos c_134, bnd_l z]) hcl hsl (fun ad_135 st_135 H locs w_135 ok_135 e1_135 e2_135 hP hD hS => ?_)
                      have hcl := cl_next hcl e1_135
                      have hsl := cl_next hsl e2_135
                      exact mx_vret (stF := st_135) hx hb hr hlocks hK hP hD hS hcl hsl (by unfold f_Pa_expression; rw [bnd_r w_1, if_neg c_2, if_pos c_116, if_pos c_117, if_pos c_118, if_pos c_119, if_pos c_120, if_pos c_121, bnd_r w_122, bnd_r w_123, if_neg c_124, bnd_r w_132, if_pos c_133, if_pos c_134, bnd_r w_135]) ok_135 d_Pa_expression_213
                  · refine lv_aload_n hx hb d_Pa_expression_184 rfl (lv_at hl 2 rfl) ?_
                    refine lv_iload hx hb d_Pa_expression_185 (lv_at hl 1 rfl) ?_
                    refine lv_iload_n hx hb d_Pa_expression_187 rfl (lv_at hl 4 rfl) ?_
                    refine lv_iload_n hx hb d_Pa_expression_188 rfl (lv_at hl 5 rfl) ?_
                    refine mx_Vv (As := [.int (f_Tr_count (sTr st_1)), .int depth, .int inn]) (rest := []) ⟨hx, hb, hml, hown, hts0⟩ (m_Pa_conditional l hlt dC dI cI cZ sa rk hp h a1 a2 a3 a4 ht hq n1 n2 fr0 lo0 E S F hRE hRS hRF hc ad_132 st_132 ok_132 _ (f_Tr_count (sTr st_1)) depth inn (fun z => hg (by unfold f_Pa_expression; rw [bnd_r w_1, if_neg c_2, if_pos c_116, if_pos c_117, if_pos c_118, if_pos c_119, if_pos c_120, if_pos c_121, bnd_r w_122, bnd_r w_123, if_neg c_124, bnd_r w_132, if_neg c_133, bnd_n z]))) hP hD hK hS hA hC hZ hnt hlocks L_699 L_701 L_31 L_87 L_702 k_Pa_conditional ⟨(by show _ ≤ fr0 + 10; omega), (by show _ ≤ lo0 + 374; omega)⟩ rfl rfl hl.1 (Nat.le_of_ble_eq_true rfl) d_Pa_expression_189 rfl (fun q z => by unfold f_Pa_expression; rw [bnd_r w_1, if_neg c_2, if_pos c_116, if_pos c_117, if_pos c_118, if_pos c_119, if_pos c_120, if_pos c_121, bnd_r w_122, bnd_r w_123, if_neg c_124, bnd_r w_132, if_neg c_133, bnd_l z]) hcl hsl (fun ad_136 st_136 H locs w_136 ok_136 e1_136 e2_136 hP hD hS => ?_)
                    have hcl := cl_next hcl e1_136
                    have hsl := cl_next hsl e2_136
                    refine lv_aload_n hx hb d_Pa_expression_192 rfl (lv_at hl 2 rfl) ?_
                    refine lv_iload hx hb d_Pa_expression_193 (lv_at hl 1 rfl) ?_
                    refine lv_iload_n hx hb d_Pa_expression_195 rfl (lv_at hl 4 rfl) ?_
                    refine lv_iload_n hx hb d_Pa_expression_196 rfl (lv_at hl 5 rfl) ?_
                    refine mx_Vv (As := [.int (f_Tr_count (sTr st_1)), .int depth, .int inn]) (rest := []) ⟨hx, hb, hml, hown, hts0⟩ (m_Pa_assignment l hlt dC dI cI cZ sa rk hp h a1 a2 a3 a4 ht hq n1 n2 fr0 lo0 E S F hRE hRS hRF hc ad_136 st_136 ok_136 _ (f_Tr_count (sTr st_1)) depth inn (fun z => hg (by unfold f_Pa_expression; rw [bnd_r w_1, if_neg c_2, if_pos c_116, if_pos c_117, if_pos c_118, if_pos c_119, if_pos c_120, if_pos c_121, bnd_r w_122, bnd_r w_123, if_neg c_124, bnd_r w_132, if_neg c_133, bnd_r w_136, bnd_n z]))) hP hD hK hS hA hC hZ hnt hlocks L_703 L_705 L_32 L_87 L_706 k_Pa_assignment ⟨(by show _ ≤ fr0 + 10; omega), (by show _ ≤ lo0 + 374; omega)⟩ rfl rfl hl.1 (Nat.le_of_ble_eq_true rfl) d_Pa_expression_197 rfl (fun q z => by unfold f_Pa_expression; rw [bnd_r w_1, if_neg c_2, if_pos c_116, if_pos c_117, if_pos c_118, if_pos c_119, if_pos c_120, if_pos c_121, bnd_r w_122, bnd_r w_123, if_neg c_124, bnd_r w_132, if_neg c_133, bnd_r w_136, bnd_l z]) hcl hsl (fun ad_137 st_137 H locs w_137 ok_137 e1_137 e2_137 hP hD hS => ?_)
                    have hcl := cl_next hcl e1_137
                    have hsl := cl_next hsl e2_137
                    refine lv_iload_n hx hb d_Pa_expression_200 rfl (lv_at hl 3 rfl) ?_
                    refine lv_iconst (v := (-1)) hx hb d_Pa_expression_201 (by decide) ?_
                    refine lv_icmp_ne (tgt := 213) hx hb d_Pa_expression_202 (by decide) (fun c_138 => ?_) (fun c_138 => ?_)
                    · exact mx_vret (stF := st_137) hx hb hr hlocks hK hP hD hS hcl hsl (by unfold f_Pa_expression; rw [bnd_r w_1, if_neg c_2, if_pos c_116, if_pos c_117, if_pos c_118, if_pos c_119, if_pos c_120, if_pos c_121, bnd_r w_122, bnd_r w_123, if_neg c_124, bnd_r w_132, if_neg c_133, bnd_r w_136, bnd_r w_137, if_neg c_138]) ok_137 d_Pa_expression_213
                    · refine lv_aload_n hx hb d_Pa_expression_205 rfl (lv_at hl 2 rfl) ?_
                      refine lv_iload hx hb d_Pa_expression_206 (lv_at hl 1 rfl) ?_
                      refine lv_iload_n hx hb d_Pa_expression_208 rfl (lv_at hl 4 rfl) ?_
                      refine lv_iload_n hx hb d_Pa_expression_209 rfl (lv_at hl 5 rfl) ?_
                      refine mx_Vv (As := [.int (f_Tr_count (sTr st_1)), .int depth, .int inn]) (rest := []) ⟨hx, hb, hml, hown, hts0⟩ (m_Pa_commas l hlt dC dI cI cZ sa rk hp h a1 a2 a3 a4 ht hq n1 n2 fr0 lo0 E S F hRE hRS hRF hc ad_137 st_137 ok_137 _ (f_Tr_count (sTr st_1)) depth inn (fun z => hg (by unfold f_Pa_expression; rw [bnd_r w_1, if_neg c_2, if_pos c_116, if_pos c_117, if_pos c_118, if_pos c_119, if_pos c_120, if_pos c_121, bnd_r w_122, bnd_r w_123, if_neg c_124, bnd_r w_132, if_neg c_133, bnd_r w_136, bnd_r w_137, if_pos c_138, bnd_n z]))) hP hD hK hS hA hC hZ hnt hlocks L_707 L_709 L_33 L_87 L_710 k_Pa_commas ⟨(by show _ ≤ fr0 + 10; omega), (by show _ ≤ lo0 + 374; omega)⟩ rfl rfl hl.1 (Nat.le_of_ble_eq_true rfl) d_Pa_expression_210 rfl (fun q z => by unfold f_Pa_expression; rw [bnd_r w_1, if_neg c_2, if_pos c_116, if_pos c_117, if_pos c_118, if_pos c_119, if_pos c_120, if_pos c_121, bnd_r w_122, bnd_r w_123, if_neg c_124, bnd_r w_132, if_neg c_133, bnd_r w_136, bnd_r w_137, if_pos c_138, bnd_l z]) hcl hsl (fun ad_139 st_139 H locs w_139 ok_139 e1_139 e2_139 hP hD hS => ?_)
                      have hcl := cl_next hcl e1_139
                      have hsl := cl_next hsl e2_139
                      exact mx_vret (stF := st_139) hx hb hr hlocks hK hP hD hS hcl hsl (by unfold f_Pa_expression; rw [bnd_r w_1, if_neg c_2, if_pos c_116, if_pos c_117, if_pos c_118, if_pos c_119, if_pos c_120, if_pos c_121, bnd_r w_122, bnd_r w_123, if_neg c_124, bnd_r w_132, if_neg c_133, bnd_r w_136, bnd_r w_137, if_pos c_138, bnd_r w_139]) ok_139 d_Pa_expression_213
              · refine lv_aload_n hx hb d_Pa_expression_125 rfl (lv_at hl 2 rfl) ?_
                refine lv_iload_n hx hb d_Pa_expression_126 rfl (lv_at hl 4 rfl) ?_
                refine mx_Vv (As := [.int depth]) (rest := []) ⟨hx, hb, hml, hown, hts0⟩ (m_Pa_construction l hlt dC dI cI cZ sa rk hp h a1 a2 a3 a4 ht hq n1 n2 fr0 lo0 E S F hRE hRS hRF hc ad_1 st_1 ok_1 _ depth (fun z => hg (by unfold f_Pa_expression; rw [bnd_r w_1, if_neg c_2, if_pos c_116, if_pos c_117, if_pos c_118, if_pos c_119, if_pos c_120, if_neg c_121, bnd_n z]))) hP hD hK hS hA hC hZ hnt hlocks L_639 L_641 L_23 L_87 L_642 k_Pa_construction ⟨(by show _ ≤ fr0 + 10; omega), (by show _ ≤ lo0 + 374; omega)⟩ rfl rfl hl.1 (Nat.le_of_ble_eq_true rfl) d_Pa_expression_127 rfl (fun q z => by unfold f_Pa_expression; rw [bnd_r w_1, if_neg c_2, if_pos c_116, if_pos c_117, if_pos c_118, if_pos c_119, if_pos c_120, if_neg c_121, bnd_l z]) hcl hsl (fun ad_140 st_140 H locs w_140 ok_140 e1_140 e2_140 hP hD hS => ?_)
                have hcl := cl_next hcl e1_140
                have hsl := cl_next hsl e2_140
                refine lv_goto (tgt := 137) hx hb d_Pa_expression_130 (by decide) ?_
                refine lv_iload hx hb d_Pa_expression_137 (lv_at hl 0 rfl) ?_
                refine lv_iconst (v := (-1)) hx hb d_Pa_expression_139 (by decide) ?_
                refine lv_icmp_ne (tgt := 161) hx hb d_Pa_expression_140 (by decide) (fun q9 => absurd c_116 q9) (fun _ => ?_)
                refine lv_aload_n hx hb d_Pa_expression_143 rfl (lv_at hl 2 rfl) ?_
                refine lv_iload hx hb d_Pa_expression_144 (lv_at hl 1 rfl) ?_
                refine lv_iload_n hx hb d_Pa_expression_146 rfl (lv_at hl 4 rfl) ?_
                refine lv_iload_n hx hb d_Pa_expression_147 rfl (lv_at hl 3 rfl) ?_
                refine lv_bipush (v := 12) hx hb d_Pa_expression_148 (by decide) ?_
                refine lv_icmp_ge (tgt := 157) hx hb d_Pa_expression_150 (by decide) (fun q9 => absurd q9 c_2) (fun _ => ?_)
                refine lv_iconst (v := 1) hx hb d_Pa_expression_153 (by decide) ?_
                refine lv_goto (tgt := 158) hx hb d_Pa_expression_154 (by decide) ?_
                refine mx_Vv (As := [.int (f_Tr_count (sTr st_1)), .int depth, .int 1]) (rest := []) ⟨hx, hb, hml, hown, hts0⟩ (m_Pa_tails l hlt dC dI cI cZ sa rk hp h a1 a2 a3 a4 ht hq n1 n2 fr0 lo0 E S F hRE hRS hRF hc ad_140 st_140 ok_140 _ (f_Tr_count (sTr st_1)) depth 1 (fun z => hg (by unfold f_Pa_expression; rw [bnd_r w_1, if_neg c_2, if_pos c_116, if_pos c_117, if_pos c_118, if_pos c_119, if_pos c_120, if_neg c_121, bnd_r w_140, bnd_n z]))) hP hD hK hS hA hC hZ hnt hlocks L_661 L_663 L_27 L_87 L_664 k_Pa_tails ⟨(by show _ ≤ fr0 + 10; omega), (by show _ ≤ lo0 + 374; omega)⟩ rfl rfl hl.1 (Nat.le_of_ble_eq_true rfl) d_Pa_expression_158 rfl (fun q z => by unfold f_Pa_expression; rw [bnd_r w_1, if_neg c_2, if_pos c_116, if_pos c_117, if_pos c_118, if_pos c_119, if_pos c_120, if_neg c_121, bnd_r w_140, bnd_l z]) hcl hsl (fun ad_141 st_141 H locs w_141 ok_141 e1_141 e2_141 hP hD hS => ?_)
                have hcl := cl_next hcl e1_141
                have hsl := cl_next hsl e2_141
                refine lv_iload_n hx hb d_Pa_expression_161 rfl (lv_at hl 3 rfl) ?_
                refine lv_bipush (v := 10) hx hb d_Pa_expression_162 (by decide) ?_
                refine lv_icmp_gt (tgt := 180) hx hb d_Pa_expression_164 (by decide) (fun c_142 => ?_) (fun c_142 => ?_)
                · refine lv_iload_n hx hb d_Pa_expression_180 rfl (lv_at hl 3 rfl) ?_
                  refine lv_if_gt (tgt := 200) hx hb d_Pa_expression_181 (by decide) (fun c_143 => ?_) (fun c_143 => ?_)
                  · refine lv_iload_n hx hb d_Pa_expression_200 rfl (lv_at hl 3 rfl) ?_
                    refine lv_iconst (v := (-1)) hx hb d_Pa_expression_201 (by decide) ?_
                    refine lv_icmp_ne (tgt := 213) hx hb d_Pa_expression_202 (by decide) (fun c_144 => ?_) (fun c_144 => ?_)
                    · exact mx_vret (stF := st_141) hx hb hr hlocks hK hP hD hS hcl hsl (by unfold f_Pa_expression; rw [bnd_r w_1, if_neg c_2, if_pos c_116, if_pos c_117, if_pos c_118, if_pos c_119, if_pos c_120, if_neg c_121, bnd_r w_140, bnd_r w_141, if_pos c_142, if_pos c_143, if_neg c_144]) ok_141 d_Pa_expression_213
                    · refine lv_aload_n hx hb d_Pa_expression_205 rfl (lv_at hl 2 rfl) ?_
                      refine lv_iload hx hb d_Pa_expression_206 (lv_at hl 1 rfl) ?_
                      refine lv_iload_n hx hb d_Pa_expression_208 rfl (lv_at hl 4 rfl) ?_
                      refine lv_iload_n hx hb d_Pa_expression_209 rfl (lv_at hl 5 rfl) ?_
                      refine mx_Vv (As := [.int (f_Tr_count (sTr st_1)), .int depth, .int inn]) (rest := []) ⟨hx, hb, hml, hown, hts0⟩ (m_Pa_commas l hlt dC dI cI cZ sa rk hp h a1 a2 a3 a4 ht hq n1 n2 fr0 lo0 E S F hRE hRS hRF hc ad_141 st_141 ok_141 _ (f_Tr_count (sTr st_1)) depth inn (fun z => hg (by unfold f_Pa_expression; rw [bnd_r w_1, if_neg c_2, if_pos c_116, if_pos c_117, if_pos c_118, if_pos c_119, if_pos c_120, if_neg c_121, bnd_r w_140, bnd_r w_141, if_pos c_142, if_pos c_143, if_pos c_144, bnd_n z]))) hP hD hK hS hA hC hZ hnt hlocks L_707 L_709 L_33 L_87 L_710 k_Pa_commas ⟨(by show _ ≤ fr0 + 10; omega), (by show _ ≤ lo0 + 374; omega)⟩ rfl rfl hl.1 (Nat.le_of_ble_eq_true rfl) d_Pa_expression_210 rfl (fun q z => by unfold f_Pa_expression; rw [bnd_r w_1, if_neg c_2, if_pos c_116, if_pos c_117, if_pos c_118, if_pos c_119, if_pos c_120, if_neg c_121, bnd_r w_140, bnd_r w_141, if_pos c_142, if_pos c_143, if_pos c_144, bnd_l z]) hcl hsl (fun ad_145 st_145 H locs w_145 ok_145 e1_145 e2_145 hP hD hS => ?_)
                      have hcl := cl_next hcl e1_145
                      have hsl := cl_next hsl e2_145
                      exact mx_vret (stF := st_145) hx hb hr hlocks hK hP hD hS hcl hsl (by unfold f_Pa_expression; rw [bnd_r w_1, if_neg c_2, if_pos c_116, if_pos c_117, if_pos c_118, if_pos c_119, if_pos c_120, if_neg c_121, bnd_r w_140, bnd_r w_141, if_pos c_142, if_pos c_143, if_pos c_144, bnd_r w_145]) ok_145 d_Pa_expression_213
                  · refine lv_aload_n hx hb d_Pa_expression_184 rfl (lv_at hl 2 rfl) ?_
                    refine lv_iload hx hb d_Pa_expression_185 (lv_at hl 1 rfl) ?_
                    refine lv_iload_n hx hb d_Pa_expression_187 rfl (lv_at hl 4 rfl) ?_
                    refine lv_iload_n hx hb d_Pa_expression_188 rfl (lv_at hl 5 rfl) ?_
                    refine mx_Vv (As := [.int (f_Tr_count (sTr st_1)), .int depth, .int inn]) (rest := []) ⟨hx, hb, hml, hown, hts0⟩ (m_Pa_conditional l hlt dC dI cI cZ sa rk hp h a1 a2 a3 a4 ht hq n1 n2 fr0 lo0 E S F hRE hRS hRF hc ad_141 st_141 ok_141 _ (f_Tr_count (sTr st_1)) depth inn (fun z => hg (by unfold f_Pa_expression; rw [bnd_r w_1, if_neg c_2, if_pos c_116, if_pos c_117, if_pos c_118, if_pos c_119, if_pos c_120, if_neg c_121, bnd_r w_140, bnd_r w_141, if_pos c_142, if_neg c_143, bnd_n z]))) hP hD hK hS hA hC hZ hnt hlocks L_699 L_701 L_31 L_87 L_702 k_Pa_conditional ⟨(by show _ ≤ fr0 + 10; omega), (by show _ ≤ lo0 + 374; omega)⟩ rfl rfl hl.1 (Nat.le_of_ble_eq_true rfl) d_Pa_expression_189 rfl (fun q z => by unfold f_Pa_expression; rw [bnd_r w_1, if_neg c_2, if_pos c_116, if_pos c_117, if_pos c_118, if_pos c_119, if_pos c_120, if_neg c_121, bnd_r w_140, bnd_r w_141, if_pos c_142, if_neg c_143, bnd_l z]) hcl hsl (fun ad_146 st_146 H locs w_146 ok_146 e1_146 e2_146 hP hD hS => ?_)
                    have hcl := cl_next hcl e1_146
                    have hsl := cl_next hsl e2_146
                    refine lv_aload_n hx hb d_Pa_expression_192 rfl (lv_at hl 2 rfl) ?_
                    refine lv_iload hx hb d_Pa_expression_193 (lv_at hl 1 rfl) ?_
                    refine lv_iload_n hx hb d_Pa_expression_195 rfl (lv_at hl 4 rfl) ?_
                    refine lv_iload_n hx hb d_Pa_expression_196 rfl (lv_at hl 5 rfl) ?_
                    refine mx_Vv (As := [.int (f_Tr_count (sTr st_1)), .int depth, .int inn]) (rest := []) ⟨hx, hb, hml, hown, hts0⟩ (m_Pa_assignment l hlt dC dI cI cZ sa rk hp h a1 a2 a3 a4 ht hq n1 n2 fr0 lo0 E S F hRE hRS hRF hc ad_146 st_146 ok_146 _ (f_Tr_count (sTr st_1)) depth inn (fun z => hg (by unfold f_Pa_expression; rw [bnd_r w_1, if_neg c_2, if_pos c_116, if_pos c_117, if_pos c_118, if_pos c_119, if_pos c_120, if_neg c_121, bnd_r w_140, bnd_r w_141, if_pos c_142, if_neg c_143, bnd_r w_146, bnd_n z]))) hP hD hK hS hA hC hZ hnt hlocks L_703 L_705 L_32 L_87 L_706 k_Pa_assignment ⟨(by show _ ≤ fr0 + 10; omega), (by show _ ≤ lo0 + 374; omega)⟩ rfl rfl hl.1 (Nat.le_of_ble_eq_true rfl) d_Pa_expression_197 rfl (fun q z => by unfold f_Pa_expression; rw [bnd_r w_1, if_neg c_2, if_pos c_116, if_pos c_117, if_pos c_118, if_pos c_119, if_pos c_120, if_neg c_121, bnd_r w_140, bnd_r w_141, if_pos c_142, if_neg c_143, bnd_r w_146, bnd_l z]) hcl hsl (fun ad_147 st_147 H locs w_147 ok_147 e1_147 e2_147 hP hD hS => ?_)
                    have hcl := cl_next hcl e1_147
                    have hsl := cl_next hsl e2_147
                    refine lv_iload_n hx hb d_Pa_expression_200 rfl (lv_at hl 3 rfl) ?_
                    refine lv_iconst (v := (-1)) hx hb d_Pa_expression_201 (by decide) ?_
                    refine lv_icmp_ne (tgt := 213) hx hb d_Pa_expression_202 (by decide) (fun c_148 => ?_) (fun c_148 => ?_)
                    · exact mx_vret (stF := st_147) hx hb hr hlocks hK hP hD hS hcl hsl (by unfold f_Pa_expression; rw [bnd_r w_1, if_neg c_2, if_pos c_116, if_pos c_117, if_pos c_118, if_pos c_119, if_pos c_120, if_neg c_121, bnd_r w_140, bnd_r w_141, if_pos c_142, if_neg c_143, bnd_r w_146, bnd_r w_147, if_neg c_148]) ok_147 d_Pa_expression_213
                    · refine lv_aload_n hx hb d_Pa_expression_205 rfl (lv_at hl 2 rfl) ?_
                      refine lv_iload hx hb d_Pa_expression_206 (lv_at hl 1 rfl) ?_
                      refine lv_iload_n hx hb d_Pa_expression_208 rfl (lv_at hl 4 rfl) ?_
                      refine lv_iload_n hx hb d_Pa_expression_209 rfl (lv_at hl 5 rfl) ?_
                      refine mx_Vv (As := [.int (f_Tr_count (sTr st_1)), .int depth, .int inn]) (rest := []) ⟨hx, hb, hml, hown, hts0⟩ (m_Pa_commas l hlt dC dI cI cZ sa rk hp h a1 a2 a3 a4 ht hq n1 n2 fr0 lo0 E S F hRE hRS hRF hc ad_147 st_147 ok_147 _ (f_Tr_count (sTr st_1)) depth inn (fun z => hg (by unfold f_Pa_expression; rw [bnd_r w_1, if_neg c_2, if_pos c_116, if_pos c_117, if_pos c_118, if_pos c_119, if_pos c_120, if_neg c_121, bnd_r w_140, bnd_r w_141, if_pos c_142, if_neg c_143, bnd_r w_146, bnd_r w_147, if_pos c_148, bnd_n z]))) hP hD hK hS hA hC hZ hnt hlocks L_707 L_709 L_33 L_87 L_710 k_Pa_commas ⟨(by show _ ≤ fr0 + 10; omega), (by show _ ≤ lo0 + 374; omega)⟩ rfl rfl hl.1 (Nat.le_of_ble_eq_true rfl) d_Pa_expression_210 rfl (fun q z => by unfold f_Pa_expression; rw [bnd_r w_1, if_neg c_2, if_pos c_116, if_pos c_117, if_pos c_118, if_pos c_119, if_pos c_120, if_neg c_121, bnd_r w_140, bnd_r w_141, if_pos c_142, if_neg c_143, bnd_r w_146, bnd_r w_147, if_pos c_148, bnd_l z]) hcl hsl (fun ad_149 st_149 H locs w_149 ok_149 e1_149 e2_149 hP hD hS => ?_)
                      have hcl := cl_next hcl e1_149
                      have hsl := cl_next hsl e2_149
                      exact mx_vret (stF := st_149) hx hb hr hlocks hK hP hD hS hcl hsl (by unfold f_Pa_expression; rw [bnd_r w_1, if_neg c_2, if_pos c_116, if_pos c_117, if_pos c_118, if_pos c_119, if_pos c_120, if_neg c_121, bnd_r w_140, bnd_r w_141, if_pos c_142, if_neg c_143, bnd_r w_146, bnd_r w_147, if_pos c_148, bnd_r w_149]) ok_149 d_Pa_expression_213
                · refine lv_aload_n hx hb d_Pa_expression_167 rfl (lv_at hl 2 rfl) ?_
                  refine lv_iload hx hb d_Pa_expression_168 (lv_at hl 1 rfl) ?_
                  refine lv_iload_n hx hb d_Pa_expression_170 rfl (lv_at hl 3 rfl) ?_
                  refine lv_iconst (v := 1) hx hb d_Pa_expression_171 (by decide) ?_
                  refine va_mmax hx hb (hml.trans hl.1.symm) hown (hts _ L_682) (hts _ L_637) (hts _ L_96) (hts _ L_638) (by show _ ≤ fr0 + 10; omega) (Nat.le_trans (m := 21) (Nat.le_of_ble_eq_true rfl) (by show _ ≤ lo0 + 374; omega)) (Nat.le_trans (Nat.le_add_right _ _) hcl) (Nat.le_trans (Nat.le_add_right _ _) hsl) d_Pa_expression_172 ?_
                  refine lv_iload_n hx hb d_Pa_expression_175 rfl (lv_at hl 4 rfl) ?_
                  refine lv_iload_n hx hb d_Pa_expression_176 rfl (lv_at hl 5 rfl) ?_
                  refine mx_Vv (As := [.int (f_Tr_count (sTr st_1)), .int (if level < 1 then 1 else level), .int depth, .int inn]) (rest := []) ⟨hx, hb, hml, hown, hts0⟩ (m_Pa_binaries l hlt dC dI cI cZ sa rk hp h a1 a2 a3 a4 ht hq n1 n2 fr0 lo0 E S F hRE hRS hRF hc ad_141 st_141 ok_141 _ (f_Tr_count (sTr st_1)) (if level < 1 then 1 else level) depth inn (fun z => hg (by unfold f_Pa_expression; rw [bnd_r w_1, if_neg c_2, if_pos c_116, if_pos c_117, if_pos c_118, if_pos c_119, if_pos c_120, if_neg c_121, bnd_r w_140, bnd_r w_141, if_neg c_142, bnd_n z]))) hP hD hK hS hA hC hZ hnt hlocks L_683 L_685 L_30 L_87 L_686 k_Pa_binaries ⟨(by show _ ≤ fr0 + 10; omega), (by show _ ≤ lo0 + 374; omega)⟩ rfl rfl hl.1 (Nat.le_of_ble_eq_true rfl) d_Pa_expression_177 rfl (fun q z => by unfold f_Pa_expression; rw [bnd_r w_1, if_neg c_2, if_pos c_116, if_pos c_117, if_pos c_118, if_pos c_119, if_pos c_120, if_neg c_121, bnd_r w_140, bnd_r w_141, if_neg c_142, bnd_l z]) hcl hsl (fun ad_150 st_150 H locs w_150 ok_150 e1_150 e2_150 hP hD hS => ?_)
                  have hcl := cl_next hcl e1_150
                  have hsl := cl_next hsl e2_150
                  refine lv_iload_n hx hb d_Pa_expression_180 rfl (lv_at hl 3 rfl) ?_
                  refine lv_if_gt (tgt := 200) hx hb d_Pa_expression_181 (by decide) (fun c_151 => ?_) (fun c_151 => ?_)
                  · refine lv_iload_n hx hb d_Pa_expression_200 rfl (lv_at hl 3 rfl) ?_
                    refine lv_iconst (v := (-1)) hx hb d_Pa_expression_201 (by decide) ?_
                    refine lv_icmp_ne (tgt := 213) hx hb d_Pa_expression_202 (by decide) (fun c_152 => ?_) (fun c_152 => ?_)
                    · exact mx_vret (stF := st_150) hx hb hr hlocks hK hP hD hS hcl hsl (by unfold f_Pa_expression; rw [bnd_r w_1, if_neg c_2, if_pos c_116, if_pos c_117, if_pos c_118, if_pos c_119, if_pos c_120, if_neg c_121, bnd_r w_140, bnd_r w_141, if_neg c_142, bnd_r w_150, if_pos c_151, if_neg c_152]) ok_150 d_Pa_expression_213
                    · refine lv_aload_n hx hb d_Pa_expression_205 rfl (lv_at hl 2 rfl) ?_
                      refine lv_iload hx hb d_Pa_expression_206 (lv_at hl 1 rfl) ?_
                      refine lv_iload_n hx hb d_Pa_expression_208 rfl (lv_at hl 4 rfl) ?_
                      refine lv_iload_n hx hb d_Pa_expression_209 rfl (lv_at hl 5 rfl) ?_
                      refine mx_Vv (As := [.int (f_Tr_count (sTr st_1)), .int depth, .int inn]) (rest := []) ⟨hx, hb, hml, hown, hts0⟩ (m_Pa_commas l hlt dC dI cI cZ sa rk hp h a1 a2 a3 a4 ht hq n1 n2 fr0 lo0 E S F hRE hRS hRF hc ad_150 st_150 ok_150 _ (f_Tr_count (sTr st_1)) depth inn (fun z => hg (by unfold f_Pa_expression; rw [bnd_r w_1, if_neg c_2, if_pos c_116, if_pos c_117, if_pos c_118, if_pos c_119, if_pos c_120, if_neg c_121, bnd_r w_140, bnd_r w_141, if_neg c_142, bnd_r w_150, if_pos c_151, if_pos c_152, bnd_n z]))) hP hD hK hS hA hC hZ hnt hlocks L_707 L_709 L_33 L_87 L_710 k_Pa_commas ⟨(by show _ ≤ fr0 + 10; omega), (by show _ ≤ lo0 + 374; omega)⟩ rfl rfl hl.1 (Nat.le_of_ble_eq_true rfl) d_Pa_expression_210 rfl (fun q z => by unfold f_Pa_expression; rw [bnd_r w_1, if_neg c_2, if_pos c_116, if_pos c_117, if_pos c_118, if_pos c_119, if_pos c_120, if_neg c_121, bnd_r w_140, bnd_r w_141, if_neg c_142, bnd_r w_150, if_pos c_151, if_pos c_152, bnd_l z]) hcl hsl (fun ad_153 st_153 H locs w_153 ok_153 e1_153 e2_153 hP hD hS => ?_)
                      have hcl := cl_next hcl e1_153
                      have hsl := cl_next hsl e2_153
                      exact mx_vret (stF := st_153) hx hb hr hlocks hK hP hD hS hcl hsl (by unfold f_Pa_expression; rw [bnd_r w_1, if_neg c_2, if_pos c_116, if_pos c_117, if_pos c_118, if_pos c_119, if_pos c_120, if_neg c_121, bnd_r w_140, bnd_r w_141, if_neg c_142, bnd_r w_150, if_pos c_151, if_pos c_152, bnd_r w_153]) ok_153 d_Pa_expression_213
                  · refine lv_aload_n hx hb d_Pa_expression_184 rfl (lv_at hl 2 rfl) ?_
                    refine lv_iload hx hb d_Pa_expression_185 (lv_at hl 1 rfl) ?_
                    refine lv_iload_n hx hb d_Pa_expression_187 rfl (lv_at hl 4 rfl) ?_
                    refine lv_iload_n hx hb d_Pa_expression_188 rfl (lv_at hl 5 rfl) ?_
                    refine mx_Vv (As := [.int (f_Tr_count (sTr st_1)), .int depth, .int inn]) (rest := []) ⟨hx, hb, hml, hown, hts0⟩ (m_Pa_conditional l hlt dC dI cI cZ sa rk hp h a1 a2 a3 a4 ht hq n1 n2 fr0 lo0 E S F hRE hRS hRF hc ad_150 st_150 ok_150 _ (f_Tr_count (sTr st_1)) depth inn (fun z => hg (by unfold f_Pa_expression; rw [bnd_r w_1, if_neg c_2, if_pos c_116, if_pos c_117, if_pos c_118, if_pos c_119, if_pos c_120, if_neg c_121, bnd_r w_140, bnd_r w_141, if_neg c_142, bnd_r w_150, if_neg c_151, bnd_n z]))) hP hD hK hS hA hC hZ hnt hlocks L_699 L_701 L_31 L_87 L_702 k_Pa_conditional ⟨(by show _ ≤ fr0 + 10; omega), (by show _ ≤ lo0 + 374; omega)⟩ rfl rfl hl.1 (Nat.le_of_ble_eq_true rfl) d_Pa_expression_189 rfl (fun q z => by unfold f_Pa_expression; rw [bnd_r w_1, if_neg c_2, if_pos c_116, if_pos c_117, if_pos c_118, if_pos c_119, if_pos c_120, if_neg c_121, bnd_r w_140, bnd_r w_141, if_neg c_142, bnd_r w_150, if_neg c_151, bnd_l z]) hcl hsl (fun ad_154 st_154 H locs w_154 ok_154 e1_154 e2_154 hP hD hS => ?_)
                    have hcl := cl_next hcl e1_154
                    have hsl := cl_next hsl e2_154
                    refine lv_aload_n hx hb d_Pa_expression_192 rfl (lv_at hl 2 rfl) ?_
                    refine lv_iload hx hb d_Pa_expression_193 (lv_at hl 1 rfl) ?_
                    refine lv_iload_n hx hb d_Pa_expression_195 rfl (lv_at hl 4 rfl) ?_
                    refine lv_iload_n hx hb d_Pa_expression_196 rfl (lv_at hl 5 rfl) ?_
                    refine mx_Vv (As := [.int (f_Tr_count (sTr st_1)), .int depth, .int inn]) (rest := []) ⟨hx, hb, hml, hown, hts0⟩ (m_Pa_assignment l hlt dC dI cI cZ sa rk hp h a1 a2 a3 a4 ht hq n1 n2 fr0 lo0 E S F hRE hRS hRF hc ad_154 st_154 ok_154 _ (f_Tr_count (sTr st_1)) depth inn (fun z => hg (by unfold f_Pa_expression; rw [bnd_r w_1, if_neg c_2, if_pos c_116, if_pos c_117, if_pos c_118, if_pos c_119, if_pos c_120, if_neg c_121, bnd_r w_140, bnd_r w_141, if_neg c_142, bnd_r w_150, if_neg c_151, bnd_r w_154, bnd_n z]))) hP hD hK hS hA hC hZ hnt hlocks L_703 L_705 L_32 L_87 L_706 k_Pa_assignment ⟨(by show _ ≤ fr0 + 10; omega), (by show _ ≤ lo0 + 374; omega)⟩ rfl rfl hl.1 (Nat.le_of_ble_eq_true rfl) d_Pa_expression_197 rfl (fun q z => by unfold f_Pa_expression; rw [bnd_r w_1, if_neg c_2, if_pos c_116, if_pos c_117, if_pos c_118, if_pos c_119, if_pos c_120, if_neg c_121, bnd_r w_140, bnd_r w_141, if_neg c_142, bnd_r w_150, if_neg c_151, bnd_r w_154, bnd_l z]) hcl hsl (fun ad_155 st_155 H locs w_155 ok_155 e1_155 e2_155 hP hD hS => ?_)
                    have hcl := cl_next hcl e1_155
                    have hsl := cl_next hsl e2_155
                    refine lv_iload_n hx hb d_Pa_expression_200 rfl (lv_at hl 3 rfl) ?_
                    refine lv_iconst (v := (-1)) hx hb d_Pa_expression_201 (by decide) ?_
                    refine lv_icmp_ne (tgt := 213) hx hb d_Pa_expression_202 (by decide) (fun c_156 => ?_) (fun c_156 => ?_)
                    · exact mx_vret (stF := st_155) hx hb hr hlocks hK hP hD hS hcl hsl (by unfold f_Pa_expression; rw [bnd_r w_1, if_neg c_2, if_pos c_116, if_pos c_117, if_pos c_118, if_pos c_119, if_pos c_120, if_neg c_121, bnd_r w_140, bnd_r w_141, if_neg c_142, bnd_r w_150, if_neg c_151, bnd_r w_154, bnd_r w_155, if_neg c_156]) ok_155 d_Pa_expression_213
                    · refine lv_aload_n hx hb d_Pa_expression_205 rfl (lv_at hl 2 rfl) ?_
                      refine lv_iload hx hb d_Pa_expression_206 (lv_at hl 1 rfl) ?_
                      refine lv_iload_n hx hb d_Pa_expression_208 rfl (lv_at hl 4 rfl) ?_
                      refine lv_iload_n hx hb d_Pa_expression_209 rfl (lv_at hl 5 rfl) ?_
                      refine mx_Vv (As := [.int (f_Tr_count (sTr st_1)), .int depth, .int inn]) (rest := []) ⟨hx, hb, hml, hown, hts0⟩ (m_Pa_commas l hlt dC dI cI cZ sa rk hp h a1 a2 a3 a4 ht hq n1 n2 fr0 lo0 E S F hRE hRS hRF hc ad_155 st_155 ok_155 _ (f_Tr_count (sTr st_1)) depth inn (fun z => hg (by unfold f_Pa_expression; rw [bnd_r w_1, if_neg c_2, if_pos c_116, if_pos c_117, if_pos c_118, if_pos c_119, if_pos c_120, if_neg c_121, bnd_r w_140, bnd_r w_141, if_neg c_142, bnd_r w_150, if_neg c_151, bnd_r w_154, bnd_r w_155, if_pos c_156, bnd_n z]))) hP hD hK hS hA hC hZ hnt hlocks L_707 L_709 L_33 L_87 L_710 k_Pa_commas ⟨(by show _ ≤ fr0 + 10; omega), (by show _ ≤ lo0 + 374; omega)⟩ rfl rfl hl.1 (Nat.le_of_ble_eq_true rfl) d_Pa_expression_210 rfl (fun q z => by unfold f_Pa_expression; rw [bnd_r w_1, if_neg c_2, if_pos c_116, if_pos c_117, if_pos c_118, if_pos c_119, if_pos c_120, if_neg c_121, bnd_r w_140, bnd_r w_141, if_neg c_142, bnd_r w_150, if_neg c_151, bnd_r w_154, bnd_r w_155, if_pos c_156, bnd_l z]) hcl hsl (fun ad_157 st_157 H locs w_157 ok_157 e1_157 e2_157 hP hD hS => ?_)
                      have hcl := cl_next hcl e1_157
                      have hsl := cl_next hsl e2_157
                      exact mx_vret (stF := st_157) hx hb hr hlocks hK hP hD hS hcl hsl (by unfold f_Pa_expression; rw [bnd_r w_1, if_neg c_2, if_pos c_116, if_pos c_117, if_pos c_118, if_pos c_119, if_pos c_120, if_neg c_121, bnd_r w_140, bnd_r w_141, if_neg c_142, bnd_r w_150, if_neg c_151, bnd_r w_154, bnd_r w_155, if_pos c_156, bnd_r w_157]) ok_157 d_Pa_expression_213
            · refine lv_aload_n hx hb d_Pa_expression_106 rfl (lv_at hl 2 rfl) ?_
              refine lv_bipush (v := 50) hx hb d_Pa_expression_107 (by decide) ?_
              refine lv_iload_n hx hb d_Pa_expression_109 rfl (lv_at hl 4 rfl) ?_
              refine mx_Vv (As := [.int 50, .int depth]) (rest := []) ⟨hx, hb, hml, hown, hts0⟩ (hRF hc ad_1 st_1 ok_1 _ 50 depth (fun z => hg (by unfold f_Pa_expression; rw [bnd_r w_1, if_neg c_2, if_pos c_116, if_pos c_117, if_pos c_118, if_pos c_119, if_neg c_120, bnd_n z]))) hP hD hK hS hA hC hZ hnt hlocks L_449 L_451 L_5 L_87 L_452 k_Pa_function ⟨(by show _ ≤ fr0 + 10; omega), (by show _ ≤ lo0 + 374; omega)⟩ rfl rfl hl.1 (Nat.le_of_ble_eq_true rfl) d_Pa_expression_110 rfl (fun q z => by unfold f_Pa_expression; rw [bnd_r w_1, if_neg c_2, if_pos c_116, if_pos c_117, if_pos c_118, if_pos c_119, if_neg c_120, bnd_l z]) hcl hsl (fun ad_158 st_158 H locs w_158 ok_158 e1_158 e2_158 hP hD hS => ?_)
              have hcl := cl_next hcl e1_158
              have hsl := cl_next hsl e2_158
              refine lv_goto (tgt := 137) hx hb d_Pa_expression_113 (by decide) ?_
              refine lv_iload hx hb d_Pa_expression_137 (lv_at hl 0 rfl) ?_
              refine lv_iconst (v := (-1)) hx hb d_Pa_expression_139 (by decide) ?_
              refine lv_icmp_ne (tgt := 161) hx hb d_Pa_expression_140 (by decide) (fun q9 => absurd c_116 q9) (fun _ => ?_)
              refine lv_aload_n hx hb d_Pa_expression_143 rfl (lv_at hl 2 rfl) ?_
              refine lv_iload hx hb d_Pa_expression_144 (lv_at hl 1 rfl) ?_
              refine lv_iload_n hx hb d_Pa_expression_146 rfl (lv_at hl 4 rfl) ?_
              refine lv_iload_n hx hb d_Pa_expression_147 rfl (lv_at hl 3 rfl) ?_
              refine lv_bipush (v := 12) hx hb d_Pa_expression_148 (by decide) ?_
              refine lv_icmp_ge (tgt := 157) hx hb d_Pa_expression_150 (by decide) (fun q9 => absurd q9 c_2) (fun _ => ?_)
              refine lv_iconst (v := 1) hx hb d_Pa_expression_153 (by decide) ?_
              refine lv_goto (tgt := 158) hx hb d_Pa_expression_154 (by decide) ?_
              refine mx_Vv (As := [.int (f_Tr_count (sTr st_1)), .int depth, .int 1]) (rest := []) ⟨hx, hb, hml, hown, hts0⟩ (m_Pa_tails l hlt dC dI cI cZ sa rk hp h a1 a2 a3 a4 ht hq n1 n2 fr0 lo0 E S F hRE hRS hRF hc ad_158 st_158 ok_158 _ (f_Tr_count (sTr st_1)) depth 1 (fun z => hg (by unfold f_Pa_expression; rw [bnd_r w_1, if_neg c_2, if_pos c_116, if_pos c_117, if_pos c_118, if_pos c_119, if_neg c_120, bnd_r w_158, bnd_n z]))) hP hD hK hS hA hC hZ hnt hlocks L_661 L_663 L_27 L_87 L_664 k_Pa_tails ⟨(by show _ ≤ fr0 + 10; omega), (by show _ ≤ lo0 + 374; omega)⟩ rfl rfl hl.1 (Nat.le_of_ble_eq_true rfl) d_Pa_expression_158 rfl (fun q z => by unfold f_Pa_expression; rw [bnd_r w_1, if_neg c_2, if_pos c_116, if_pos c_117, if_pos c_118, if_pos c_119, if_neg c_120, bnd_r w_158, bnd_l z]) hcl hsl (fun ad_159 st_159 H locs w_159 ok_159 e1_159 e2_159 hP hD hS => ?_)
              have hcl := cl_next hcl e1_159
              have hsl := cl_next hsl e2_159
              refine lv_iload_n hx hb d_Pa_expression_161 rfl (lv_at hl 3 rfl) ?_
              refine lv_bipush (v := 10) hx hb d_Pa_expression_162 (by decide) ?_
              refine lv_icmp_gt (tgt := 180) hx hb d_Pa_expression_164 (by decide) (fun c_160 => ?_) (fun c_160 => ?_)
              · refine lv_iload_n hx hb d_Pa_expression_180 rfl (lv_at hl 3 rfl) ?_
                refine lv_if_gt (tgt := 200) hx hb d_Pa_expression_181 (by decide) (fun c_161 => ?_) (fun c_161 => ?_)
                · refine lv_iload_n hx hb d_Pa_expression_200 rfl (lv_at hl 3 rfl) ?_
                  refine lv_iconst (v := (-1)) hx hb d_Pa_expression_201 (by decide) ?_
                  refine lv_icmp_ne (tgt := 213) hx hb d_Pa_expression_202 (by decide) (fun c_162 => ?_) (fun c_162 => ?_)
                  · exact mx_vret (stF := st_159) hx hb hr hlocks hK hP hD hS hcl hsl (by unfold f_Pa_expression; rw [bnd_r w_1, if_neg c_2, if_pos c_116, if_pos c_117, if_pos c_118, if_pos c_119, if_neg c_120, bnd_r w_158, bnd_r w_159, if_pos c_160, if_pos c_161, if_neg c_162]) ok_159 d_Pa_expression_213
                  · refine lv_aload_n hx hb d_Pa_expression_205 rfl (lv_at hl 2 rfl) ?_
                    refine lv_iload hx hb d_Pa_expression_206 (lv_at hl 1 rfl) ?_
                    refine lv_iload_n hx hb d_Pa_expression_208 rfl (lv_at hl 4 rfl) ?_
                    refine lv_iload_n hx hb d_Pa_expression_209 rfl (lv_at hl 5 rfl) ?_
                    refine mx_Vv (As := [.int (f_Tr_count (sTr st_1)), .int depth, .int inn]) (rest := []) ⟨hx, hb, hml, hown, hts0⟩ (m_Pa_commas l hlt dC dI cI cZ sa rk hp h a1 a2 a3 a4 ht hq n1 n2 fr0 lo0 E S F hRE hRS hRF hc ad_159 st_159 ok_159 _ (f_Tr_count (sTr st_1)) depth inn (fun z => hg (by unfold f_Pa_expression; rw [bnd_r w_1, if_neg c_2, if_pos c_116, if_pos c_117, if_pos c_118, if_pos c_119, if_neg c_120, bnd_r w_158, bnd_r w_159, if_pos c_160, if_pos c_161, if_pos c_162, bnd_n z]))) hP hD hK hS hA hC hZ hnt hlocks L_707 L_709 L_33 L_87 L_710 k_Pa_commas ⟨(by show _ ≤ fr0 + 10; omega), (by show _ ≤ lo0 + 374; omega)⟩ rfl rfl hl.1 (Nat.le_of_ble_eq_true rfl) d_Pa_expression_210 rfl (fun q z => by unfold f_Pa_expression; rw [bnd_r w_1, if_neg c_2, if_pos c_116, if_pos c_117, if_pos c_118, if_pos c_119, if_neg c_120, bnd_r w_158, bnd_r w_159, if_pos c_160, if_pos c_161, if_pos c_162, bnd_l z]) hcl hsl (fun ad_163 st_163 H locs w_163 ok_163 e1_163 e2_163 hP hD hS => ?_)
                    have hcl := cl_next hcl e1_163
                    have hsl := cl_next hsl e2_163
                    exact mx_vret (stF := st_163) hx hb hr hlocks hK hP hD hS hcl hsl (by unfold f_Pa_expression; rw [bnd_r w_1, if_neg c_2, if_pos c_116, if_pos c_117, if_pos c_118, if_pos c_119, if_neg c_120, bnd_r w_158, bnd_r w_159, if_pos c_160, if_pos c_161, if_pos c_162, bnd_r w_163]) ok_163 d_Pa_expression_213
                · refine lv_aload_n hx hb d_Pa_expression_184 rfl (lv_at hl 2 rfl) ?_
                  refine lv_iload hx hb d_Pa_expression_185 (lv_at hl 1 rfl) ?_
                  refine lv_iload_n hx hb d_Pa_expression_187 rfl (lv_at hl 4 rfl) ?_
                  refine lv_iload_n hx hb d_Pa_expression_188 rfl (lv_at hl 5 rfl) ?_
                  refine mx_Vv (As := [.int (f_Tr_count (sTr st_1)), .int depth, .int inn]) (rest := []) ⟨hx, hb, hml, hown, hts0⟩ (m_Pa_conditional l hlt dC dI cI cZ sa rk hp h a1 a2 a3 a4 ht hq n1 n2 fr0 lo0 E S F hRE hRS hRF hc ad_159 st_159 ok_159 _ (f_Tr_count (sTr st_1)) depth inn (fun z => hg (by unfold f_Pa_expression; rw [bnd_r w_1, if_neg c_2, if_pos c_116, if_pos c_117, if_pos c_118, if_pos c_119, if_neg c_120, bnd_r w_158, bnd_r w_159, if_pos c_160, if_neg c_161, bnd_n z]))) hP hD hK hS hA hC hZ hnt hlocks L_699 L_701 L_31 L_87 L_702 k_Pa_conditional ⟨(by show _ ≤ fr0 + 10; omega), (by show _ ≤ lo0 + 374; omega)⟩ rfl rfl hl.1 (Nat.le_of_ble_eq_true rfl) d_Pa_expression_189 rfl (fun q z => by unfold f_Pa_expression; rw [bnd_r w_1, if_neg c_2, if_pos c_116, if_pos c_117, if_pos c_118, if_pos c_119, if_neg c_120, bnd_r w_158, bnd_r w_159, if_pos c_160, if_neg c_161, bnd_l z]) hcl hsl (fun ad_164 st_164 H locs w_164 ok_164 e1_164 e2_164 hP hD hS => ?_)
                  have hcl := cl_next hcl e1_164
                  have hsl := cl_next hsl e2_164
                  refine lv_aload_n hx hb d_Pa_expression_192 rfl (lv_at hl 2 rfl) ?_
                  refine lv_iload hx hb d_Pa_expression_193 (lv_at hl 1 rfl) ?_
                  refine lv_iload_n hx hb d_Pa_expression_195 rfl (lv_at hl 4 rfl) ?_
                  refine lv_iload_n hx hb d_Pa_expression_196 rfl (lv_at hl 5 rfl) ?_
                  refine mx_Vv (As := [.int (f_Tr_count (sTr st_1)), .int depth, .int inn]) (rest := []) ⟨hx, hb, hml, hown, hts0⟩ (m_Pa_assignment l hlt dC dI cI cZ sa rk hp h a1 a2 a3 a4 ht hq n1 n2 fr0 lo0 E S F hRE hRS hRF hc ad_164 st_164 ok_164 _ (f_Tr_count (sTr st_1)) depth inn (fun z => hg (by unfold f_Pa_expression; rw [bnd_r w_1, if_neg c_2, if_pos c_116, if_pos c_117, if_pos c_118, if_pos c_119, if_neg c_120, bnd_r w_158, bnd_r w_159, if_pos c_160, if_neg c_161, bnd_r w_164, bnd_n z]))) hP hD hK hS hA hC hZ hnt hlocks L_703 L_705 L_32 L_87 L_706 k_Pa_assignment ⟨(by show _ ≤ fr0 + 10; omega), (by show _ ≤ lo0 + 374; omega)⟩ rfl rfl hl.1 (Nat.le_of_ble_eq_true rfl) d_Pa_expression_197 rfl (fun q z => by unfold f_Pa_expression; rw [bnd_r w_1, if_neg c_2, if_pos c_116, if_pos c_117, if_pos c_118, if_pos c_119, if_neg c_120, bnd_r w_158, bnd_r w_159, if_pos c_160, if_neg c_161, bnd_r w_164, bnd_l z]) hcl hsl (fun ad_165 st_165 H locs w_165 ok_165 e1_165 e2_165 hP hD hS => ?_)
                  have hcl := cl_next hcl e1_165
                  have hsl := cl_next hsl e2_165
                  refine lv_iload_n hx hb d_Pa_expression_200 rfl (lv_at hl 3 rfl) ?_
                  refine lv_iconst (v := (-1)) hx hb d_Pa_expression_201 (by decide) ?_
                  refine lv_icmp_ne (tgt := 213) hx hb d_Pa_expression_202 (by decide) (fun c_166 => ?_) (fun c_166 => ?_)
                  · exact mx_vret (stF := st_165) hx hb hr hlocks hK hP hD hS hcl hsl (by unfold f_Pa_expression; rw [bnd_r w_1, if_neg c_2, if_pos c_116, if_pos c_117, if_pos c_118, if_pos c_119, if_neg c_120, bnd_r w_158, bnd_r w_159, if_pos c_160, if_neg c_161, bnd_r w_164, bnd_r w_165, if_neg c_166]) ok_165 d_Pa_expression_213
                  · refine lv_aload_n hx hb d_Pa_expression_205 rfl (lv_at hl 2 rfl) ?_
                    refine lv_iload hx hb d_Pa_expression_206 (lv_at hl 1 rfl) ?_
                    refine lv_iload_n hx hb d_Pa_expression_208 rfl (lv_at hl 4 rfl) ?_
                    refine lv_iload_n hx hb d_Pa_expression_209 rfl (lv_at hl 5 rfl) ?_
                    refine mx_Vv (As := [.int (f_Tr_count (sTr st_1)), .int depth, .int inn]) (rest := []) ⟨hx, hb, hml, hown, hts0⟩ (m_Pa_commas l hlt dC dI cI cZ sa rk hp h a1 a2 a3 a4 ht hq n1 n2 fr0 lo0 E S F hRE hRS hRF hc ad_165 st_165 ok_165 _ (f_Tr_count (sTr st_1)) depth inn (fun z => hg (by unfold f_Pa_expression; rw [bnd_r w_1, if_neg c_2, if_pos c_116, if_pos c_117, if_pos c_118, if_pos c_119, if_neg c_120, bnd_r w_158, bnd_r w_159, if_pos c_160, if_neg c_161, bnd_r w_164, bnd_r w_165, if_pos c_166, bnd_n z]))) hP hD hK hS hA hC hZ hnt hlocks L_707 L_709 L_33 L_87 L_710 k_Pa_commas ⟨(by show _ ≤ fr0 + 10; omega), (by show _ ≤ lo0 + 374; omega)⟩ rfl rfl hl.1 (Nat.le_of_ble_eq_true rfl) d_Pa_expression_210 rfl (fun q z => by unfold f_Pa_expression; rw [bnd_r w_1, if_neg c_2, if_pos c_116, if_pos c_117, if_pos c_118, if_pos c_119, if_neg c_120, bnd_r w_158, bnd_r w_159, if_pos c_160, if_neg c_161, bnd_r w_164, bnd_r w_165, if_pos c_166, bnd_l z]) hcl hsl (fun ad_167 st_167 H locs w_167 ok_167 e1_167 e2_167 hP hD hS => ?_)
                    have hcl := cl_next hcl e1_167
                    have hsl := cl_next hsl e2_167
                    exact mx_vret (stF := st_167) hx hb hr hlocks hK hP hD hS hcl hsl (by unfold f_Pa_expression; rw [bnd_r w_1, if_neg c_2, if_pos c_116, if_pos c_117, if_pos c_118, if_pos c_119, if_neg c_120, bnd_r w_158, bnd_r w_159, if_pos c_160, if_neg c_161, bnd_r w_164, bnd_r w_165, if_pos c_166, bnd_r w_167]) ok_167 d_Pa_expression_213
              · refine lv_aload_n hx hb d_Pa_expression_167 rfl (lv_at hl 2 rfl) ?_
                refine lv_iload hx hb d_Pa_expression_168 (lv_at hl 1 rfl) ?_
                refine lv_iload_n hx hb d_Pa_expression_170 rfl (lv_at hl 3 rfl) ?_
                refine lv_iconst (v := 1) hx hb d_Pa_expression_171 (by decide) ?_
                refine va_mmax hx hb (hml.trans hl.1.symm) hown (hts _ L_682) (hts _ L_637) (hts _ L_96) (hts _ L_638) (by show _ ≤ fr0 + 10; omega) (Nat.le_trans (m := 21) (Nat.le_of_ble_eq_true rfl) (by show _ ≤ lo0 + 374; omega)) (Nat.le_trans (Nat.le_add_right _ _) hcl) (Nat.le_trans (Nat.le_add_right _ _) hsl) d_Pa_expression_172 ?_
                refine lv_iload_n hx hb d_Pa_expression_175 rfl (lv_at hl 4 rfl) ?_
                refine lv_iload_n hx hb d_Pa_expression_176 rfl (lv_at hl 5 rfl) ?_
                refine mx_Vv (As := [.int (f_Tr_count (sTr st_1)), .int (if level < 1 then 1 else level), .int depth, .int inn]) (rest := []) ⟨hx, hb, hml, hown, hts0⟩ (m_Pa_binaries l hlt dC dI cI cZ sa rk hp h a1 a2 a3 a4 ht hq n1 n2 fr0 lo0 E S F hRE hRS hRF hc ad_159 st_159 ok_159 _ (f_Tr_count (sTr st_1)) (if level < 1 then 1 else level) depth inn (fun z => hg (by unfold f_Pa_expression; rw [bnd_r w_1, if_neg c_2, if_pos c_116, if_pos c_117, if_pos c_118, if_pos c_119, if_neg c_120, bnd_r w_158, bnd_r w_159, if_neg c_160, bnd_n z]))) hP hD hK hS hA hC hZ hnt hlocks L_683 L_685 L_30 L_87 L_686 k_Pa_binaries ⟨(by show _ ≤ fr0 + 10; omega), (by show _ ≤ lo0 + 374; omega)⟩ rfl rfl hl.1 (Nat.le_of_ble_eq_true rfl) d_Pa_expression_177 rfl (fun q z => by unfold f_Pa_expression; rw [bnd_r w_1, if_neg c_2, if_pos c_116, if_pos c_117, if_pos c_118, if_pos c_119, if_neg c_120, bnd_r w_158, bnd_r w_159, if_neg c_160, bnd_l z]) hcl hsl (fun ad_168 st_168 H locs w_168 ok_168 e1_168 e2_168 hP hD hS => ?_)
                have hcl := cl_next hcl e1_168
                have hsl := cl_next hsl e2_168
                refine lv_iload_n hx hb d_Pa_expression_180 rfl (lv_at hl 3 rfl) ?_
                refine lv_if_gt (tgt := 200) hx hb d_Pa_expression_181 (by decide) (fun c_169 => ?_) (fun c_169 => ?_)
                · refine lv_iload_n hx hb d_Pa_expression_200 rfl (lv_at hl 3 rfl) ?_
                  refine lv_iconst (v := (-1)) hx hb d_Pa_expression_201 (by decide) ?_
                  refine lv_icmp_ne (tgt := 213) hx hb d_Pa_expression_202 (by decide) (fun c_170 => ?_) (fun c_170 => ?_)
                  · exact mx_vret (stF := st_168) hx hb hr hlocks hK hP hD hS hcl hsl (by unfold f_Pa_expression; rw [bnd_r w_1, if_neg c_2, if_pos c_116, if_pos c_117, if_pos c_118, if_pos c_119, if_neg c_120, bnd_r w_158, bnd_r w_159, if_neg c_160, bnd_r w_168, if_pos c_169, if_neg c_170]) ok_168 d_Pa_expression_213
                  · refine lv_aload_n hx hb d_Pa_expression_205 rfl (lv_at hl 2 rfl) ?_
                    refine lv_iload hx hb d_Pa_expression_206 (lv_at hl 1 rfl) ?_
                    refine lv_iload_n hx hb d_Pa_expression_208 rfl (lv_at hl 4 rfl) ?_
                    refine lv_iload_n hx hb d_Pa_expression_209 rfl (lv_at hl 5 rfl) ?_
                    refine mx_Vv (As := [.int (f_Tr_count (sTr st_1)), .int depth, .int inn]) (rest := []) ⟨hx, hb, hml, hown, hts0⟩ (m_Pa_commas l hlt dC dI cI cZ sa rk hp h a1 a2 a3 a4 ht hq n1 n2 fr0 lo0 E S F hRE hRS hRF hc ad_168 st_168 ok_168 _ (f_Tr_count (sTr st_1)) depth inn (fun z => hg (by unfold f_Pa_expression; rw [bnd_r w_1, if_neg c_2, if_pos c_116, if_pos c_117, if_pos c_118, if_pos c_119, if_neg c_120, bnd_r w_158, bnd_r w_159, if_neg c_160, bnd_r w_168, if_pos c_169, if_pos c_170, bnd_n z]))) hP hD hK hS hA hC hZ hnt hlocks L_707 L_709 L_33 L_87 L_710 k_Pa_commas ⟨(by show _ ≤ fr0 + 10; omega), (by show _ ≤ lo0 + 374; omega)⟩ rfl rfl hl.1 (Nat.le_of_ble_eq_true rfl) d_Pa_expression_210 rfl (fun q z => by unfold f_Pa_expression; rw [bnd_r w_1, if_neg c_2, if_pos c_116, if_pos c_117, if_pos c_118, if_pos c_119, if_neg c_120, bnd_r w_158, bnd_r w_159, if_neg c_160, bnd_r w_168, if_pos c_169, if_pos c_170, bnd_l z]) hcl hsl (fun ad_171 st_171 H locs w_171 ok_171 e1_171 e2_171 hP hD hS => ?_)
                    have hcl := cl_next hcl e1_171
                    have hsl := cl_next hsl e2_171
                    exact mx_vret (stF := st_171) hx hb hr hlocks hK hP hD hS hcl hsl (by unfold f_Pa_expression; rw [bnd_r w_1, if_neg c_2, if_pos c_116, if_pos c_117, if_pos c_118, if_pos c_119, if_neg c_120, bnd_r w_158, bnd_r w_159, if_neg c_160, bnd_r w_168, if_pos c_169, if_pos c_170, bnd_r w_171]) ok_171 d_Pa_expression_213
                · refine lv_aload_n hx hb d_Pa_expression_184 rfl (lv_at hl 2 rfl) ?_
                  refine lv_iload hx hb d_Pa_expression_185 (lv_at hl 1 rfl) ?_
                  refine lv_iload_n hx hb d_Pa_expression_187 rfl (lv_at hl 4 rfl) ?_
                  refine lv_iload_n hx hb d_Pa_expression_188 rfl (lv_at hl 5 rfl) ?_
                  refine mx_Vv (As := [.int (f_Tr_count (sTr st_1)), .int depth, .int inn]) (rest := []) ⟨hx, hb, hml, hown, hts0⟩ (m_Pa_conditional l hlt dC dI cI cZ sa rk hp h a1 a2 a3 a4 ht hq n1 n2 fr0 lo0 E S F hRE hRS hRF hc ad_168 st_168 ok_168 _ (f_Tr_count (sTr st_1)) depth inn (fun z => hg (by unfold f_Pa_expression; rw [bnd_r w_1, if_neg c_2, if_pos c_116, if_pos c_117, if_pos c_118, if_pos c_119, if_neg c_120, bnd_r w_158, bnd_r w_159, if_neg c_160, bnd_r w_168, if_neg c_169, bnd_n z]))) hP hD hK hS hA hC hZ hnt hlocks L_699 L_701 L_31 L_87 L_702 k_Pa_conditional ⟨(by show _ ≤ fr0 + 10; omega), (by show _ ≤ lo0 + 374; omega)⟩ rfl rfl hl.1 (Nat.le_of_ble_eq_true rfl) d_Pa_expression_189 rfl (fun q z => by unfold f_Pa_expression; rw [bnd_r w_1, if_neg c_2, if_pos c_116, if_pos c_117, if_pos c_118, if_pos c_119, if_neg c_120, bnd_r w_158, bnd_r w_159, if_neg c_160, bnd_r w_168, if_neg c_169, bnd_l z]) hcl hsl (fun ad_172 st_172 H locs w_172 ok_172 e1_172 e2_172 hP hD hS => ?_)
                  have hcl := cl_next hcl e1_172
                  have hsl := cl_next hsl e2_172
                  refine lv_aload_n hx hb d_Pa_expression_192 rfl (lv_at hl 2 rfl) ?_
                  refine lv_iload hx hb d_Pa_expression_193 (lv_at hl 1 rfl) ?_
                  refine lv_iload_n hx hb d_Pa_expression_195 rfl (lv_at hl 4 rfl) ?_
                  refine lv_iload_n hx hb d_Pa_expression_196 rfl (lv_at hl 5 rfl) ?_
                  refine mx_Vv (As := [.int (f_Tr_count (sTr st_1)), .int depth, .int inn]) (rest := []) ⟨hx, hb, hml, hown, hts0⟩ (m_Pa_assignment l hlt dC dI cI cZ sa rk hp h a1 a2 a3 a4 ht hq n1 n2 fr0 lo0 E S F hRE hRS hRF hc ad_172 st_172 ok_172 _ (f_Tr_count (sTr st_1)) depth inn (fun z => hg (by unfold f_Pa_expression; rw [bnd_r w_1, if_neg c_2, if_pos c_116, if_pos c_117, if_pos c_118, if_pos c_119, if_neg c_120, bnd_r w_158, bnd_r w_159, if_neg c_160, bnd_r w_168, if_neg c_169, bnd_r w_172, bnd_n z]))) hP hD hK hS hA hC hZ hnt hlocks L_703 L_705 L_32 L_87 L_706 k_Pa_assignment ⟨(by show _ ≤ fr0 + 10; omega), (by show _ ≤ lo0 + 374; omega)⟩ rfl rfl hl.1 (Nat.le_of_ble_eq_true rfl) d_Pa_expression_197 rfl (fun q z => by unfold f_Pa_expression; rw [bnd_r w_1, if_neg c_2, if_pos c_116, if_pos c_117, if_pos c_118, if_pos c_119, if_neg c_120, bnd_r w_158, bnd_r w_159, if_neg c_160, bnd_r w_168, if_neg c_169, bnd_r w_172, bnd_l z]) hcl hsl (fun ad_173 st_173 H locs w_173 ok_173 e1_173 e2_173 hP hD hS => ?_)
                  have hcl := cl_next hcl e1_173
                  have hsl := cl_next hsl e2_173
                  refine lv_iload_n hx hb d_Pa_expression_200 rfl (lv_at hl 3 rfl) ?_
                  refine lv_iconst (v := (-1)) hx hb d_Pa_expression_201 (by decide) ?_
                  refine lv_icmp_ne (tgt := 213) hx hb d_Pa_expression_202 (by decide) (fun c_174 => ?_) (fun c_174 => ?_)
                  · exact mx_vret (stF := st_173) hx hb hr hlocks hK hP hD hS hcl hsl (by unfold f_Pa_expression; rw [bnd_r w_1, if_neg c_2, if_pos c_116, if_pos c_117, if_pos c_118, if_pos c_119, if_neg c_120, bnd_r w_158, bnd_r w_159, if_neg c_160, bnd_r w_168, if_neg c_169, bnd_r w_172, bnd_r w_173, if_neg c_174]) ok_173 d_Pa_expression_213
                  · refine lv_aload_n hx hb d_Pa_expression_205 rfl (lv_at hl 2 rfl) ?_
                    refine lv_iload hx hb d_Pa_expression_206 (lv_at hl 1 rfl) ?_
                    refine lv_iload_n hx hb d_Pa_expression_208 rfl (lv_at hl 4 rfl) ?_
                    refine lv_iload_n hx hb d_Pa_expression_209 rfl (lv_at hl 5 rfl) ?_
                    refine mx_Vv (As := [.int (f_Tr_count (sTr st_1)), .int depth, .int inn]) (rest := []) ⟨hx, hb, hml, hown, hts0⟩ (m_Pa_commas l hlt dC dI cI cZ sa rk hp h a1 a2 a3 a4 ht hq n1 n2 fr0 lo0 E S F hRE hRS hRF hc ad_173 st_173 ok_173 _ (f_Tr_count (sTr st_1)) depth inn (fun z => hg (by unfold f_Pa_expression; rw [bnd_r w_1, if_neg c_2, if_pos c_116, if_pos c_117, if_pos c_118, if_pos c_119, if_neg c_120, bnd_r w_158, bnd_r w_159, if_neg c_160, bnd_r w_168, if_neg c_169, bnd_r w_172, bnd_r w_173, if_pos c_174, bnd_n z]))) hP hD hK hS hA hC hZ hnt hlocks L_707 L_709 L_33 L_87 L_710 k_Pa_commas ⟨(by show _ ≤ fr0 + 10; omega), (by show _ ≤ lo0 + 374; omega)⟩ rfl rfl hl.1 (Nat.le_of_ble_eq_true rfl) d_Pa_expression_210 rfl (fun q z => by unfold f_Pa_expression; rw [bnd_r w_1, if_neg c_2, if_pos c_116, if_pos c_117, if_pos c_118, if_pos c_119, if_neg c_120, bnd_r w_158, bnd_r w_159, if_neg c_160, bnd_r w_168, if_neg c_169, bnd_r w_172, bnd_r w_173, if_pos c_174, bnd_l z]) hcl hsl (fun ad_175 st_175 H locs w_175 ok_175 e1_175 e2_175 hP hD hS => ?_)
                    have hcl := cl_next hcl e1_175
                    have hsl := cl_next hsl e2_175
                    exact mx_vret (stF := st_175) hx hb hr hlocks hK hP hD hS hcl hsl (by unfold f_Pa_expression; rw [bnd_r w_1, if_neg c_2, if_pos c_116, if_pos c_117, if_pos c_118, if_pos c_119, if_neg c_120, bnd_r w_158, bnd_r w_159, if_neg c_160, bnd_r w_168, if_neg c_169, bnd_r w_172, bnd_r w_173, if_pos c_174, bnd_r w_175]) ok_175 d_Pa_expression_213
          · refine lv_aload_n hx hb d_Pa_expression_89 rfl (lv_at hl 2 rfl) ?_
            refine lv_iload_n hx hb d_Pa_expression_90 rfl (lv_at hl 4 rfl) ?_
            refine mx_Vv (As := [.int depth]) (rest := []) ⟨hx, hb, hml, hown, hts0⟩ (m_Pa_object l hlt dC dI cI cZ sa rk hp h a1 a2 a3 a4 ht hq n1 n2 fr0 lo0 E S F hRE hRS hRF hc ad_1 st_1 ok_1 _ depth (fun z => hg (by unfold f_Pa_expression; rw [bnd_r w_1, if_neg c_2, if_pos c_116, if_pos c_117, if_pos c_118, if_neg c_119, bnd_n z]))) hP hD hK hS hA hC hZ hnt hlocks L_599 L_601 L_18 L_87 L_602 k_Pa_object ⟨(by show _ ≤ fr0 + 10; omega), (by show _ ≤ lo0 + 374; omega)⟩ rfl rfl hl.1 (Nat.le_of_ble_eq_true rfl) d_Pa_expression_91 rfl (fun q z => by unfold f_Pa_expression; rw [bnd_r w_1, if_neg c_2, if_pos c_116, if_pos c_117, if_pos c_118, if_neg c_119, bnd_l z]) hcl hsl (fun ad_176 st_176 H locs w_176 ok_176 e1_176 e2_176 hP hD hS => ?_)
            have hcl := cl_next hcl e1_176
            have hsl := cl_next hsl e2_176
            refine lv_goto (tgt := 137) hx hb d_Pa_expression_94 (by decide) ?_
            refine lv_iload hx hb d_Pa_expression_137 (lv_at hl 0 rfl) ?_
            refine lv_iconst (v := (-1)) hx hb d_Pa_expression_139 (by decide) ?_
            refine lv_icmp_ne (tgt := 161) hx hb d_Pa_expression_140 (by decide) (fun q9 => absurd c_116 q9) (fun _ => ?_)
            refine lv_aload_n hx hb d_Pa_expression_143 rfl (lv_at hl 2 rfl) ?_
            refine lv_iload hx hb d_Pa_expression_144 (lv_at hl 1 rfl) ?_
            refine lv_iload_n hx hb d_Pa_expression_146 rfl (lv_at hl 4 rfl) ?_
            refine lv_iload_n hx hb d_Pa_expression_147 rfl (lv_at hl 3 rfl) ?_
            refine lv_bipush (v := 12) hx hb d_Pa_expression_148 (by decide) ?_
            refine lv_icmp_ge (tgt := 157) hx hb d_Pa_expression_150 (by decide) (fun q9 => absurd q9 c_2) (fun _ => ?_)
            refine lv_iconst (v := 1) hx hb d_Pa_expression_153 (by decide) ?_
            refine lv_goto (tgt := 158) hx hb d_Pa_expression_154 (by decide) ?_
            refine mx_Vv (As := [.int (f_Tr_count (sTr st_1)), .int depth, .int 1]) (rest := []) ⟨hx, hb, hml, hown, hts0⟩ (m_Pa_tails l hlt dC dI cI cZ sa rk hp h a1 a2 a3 a4 ht hq n1 n2 fr0 lo0 E S F hRE hRS hRF hc ad_176 st_176 ok_176 _ (f_Tr_count (sTr st_1)) depth 1 (fun z => hg (by unfold f_Pa_expression; rw [bnd_r w_1, if_neg c_2, if_pos c_116, if_pos c_117, if_pos c_118, if_neg c_119, bnd_r w_176, bnd_n z]))) hP hD hK hS hA hC hZ hnt hlocks L_661 L_663 L_27 L_87 L_664 k_Pa_tails ⟨(by show _ ≤ fr0 + 10; omega), (by show _ ≤ lo0 + 374; omega)⟩ rfl rfl hl.1 (Nat.le_of_ble_eq_true rfl) d_Pa_expression_158 rfl (fun q z => by unfold f_Pa_expression; rw [bnd_r w_1, if_neg c_2, if_pos c_116, if_pos c_117, if_pos c_118, if_neg c_119, bnd_r w_176, bnd_l z]) hcl hsl (fun ad_177 st_177 H locs w_177 ok_177 e1_177 e2_177 hP hD hS => ?_)
            have hcl := cl_next hcl e1_177
            have hsl := cl_next hsl e2_177
            refine lv_iload_n hx hb d_Pa_expression_161 rfl (lv_at hl 3 rfl) ?_
            refine lv_bipush (v := 10) hx hb d_Pa_expression_162 (by decide) ?_
            refine lv_icmp_gt (tgt := 180) hx hb d_Pa_expression_164 (by decide) (fun c_178 => ?_) (fun c_178 => ?_)
            · refine lv_iload_n hx hb d_Pa_expression_180 rfl (lv_at hl 3 rfl) ?_
              refine lv_if_gt (tgt := 200) hx hb d_Pa_expression_181 (by decide) (fun c_179 => ?_) (fun c_179 => ?_)
              · refine lv_iload_n hx hb d_Pa_expression_200 rfl (lv_at hl 3 rfl) ?_
                refine lv_iconst (v := (-1)) hx hb d_Pa_expression_201 (by decide) ?_
                refine lv_icmp_ne (tgt := 213) hx hb d_Pa_expression_202 (by decide) (fun c_180 => ?_) (fun c_180 => ?_)
                · exact mx_vret (stF := st_177) hx hb hr hlocks hK hP hD hS hcl hsl (by unfold f_Pa_expression; rw [bnd_r w_1, if_neg c_2, if_pos c_116, if_pos c_117, if_pos c_118, if_neg c_119, bnd_r w_176, bnd_r w_177, if_pos c_178, if_pos c_179, if_neg c_180]) ok_177 d_Pa_expression_213
                · refine lv_aload_n hx hb d_Pa_expression_205 rfl (lv_at hl 2 rfl) ?_
                  refine lv_iload hx hb d_Pa_expression_206 (lv_at hl 1 rfl) ?_
                  refine lv_iload_n hx hb d_Pa_expression_208 rfl (lv_at hl 4 rfl) ?_
                  refine lv_iload_n hx hb d_Pa_expression_209 rfl (lv_at hl 5 rfl) ?_
                  refine mx_Vv (As := [.int (f_Tr_count (sTr st_1)), .int depth, .int inn]) (rest := []) ⟨hx, hb, hml, hown, hts0⟩ (m_Pa_commas l hlt dC dI cI cZ sa rk hp h a1 a2 a3 a4 ht hq n1 n2 fr0 lo0 E S F hRE hRS hRF hc ad_177 st_177 ok_177 _ (f_Tr_count (sTr st_1)) depth inn (fun z => hg (by unfold f_Pa_expression; rw [bnd_r w_1, if_neg c_2, if_pos c_116, if_pos c_117, if_pos c_118, if_neg c_119, bnd_r w_176, bnd_r w_177, if_pos c_178, if_pos c_179, if_pos c_180, bnd_n z]))) hP hD hK hS hA hC hZ hnt hlocks L_707 L_709 L_33 L_87 L_710 k_Pa_commas ⟨(by show _ ≤ fr0 + 10; omega), (by show _ ≤ lo0 + 374; omega)⟩ rfl rfl hl.1 (Nat.le_of_ble_eq_true rfl) d_Pa_expression_210 rfl (fun q z => by unfold f_Pa_expression; rw [bnd_r w_1, if_neg c_2, if_pos c_116, if_pos c_117, if_pos c_118, if_neg c_119, bnd_r w_176, bnd_r w_177, if_pos c_178, if_pos c_179, if_pos c_180, bnd_l z]) hcl hsl (fun ad_181 st_181 H locs w_181 ok_181 e1_181 e2_181 hP hD hS => ?_)
                  have hcl := cl_next hcl e1_181
                  have hsl := cl_next hsl e2_181
                  exact mx_vret (stF := st_181) hx hb hr hlocks hK hP hD hS hcl hsl (by unfold f_Pa_expression; rw [bnd_r w_1, if_neg c_2, if_pos c_116, if_pos c_117, if_pos c_118, if_neg c_119, bnd_r w_176, bnd_r w_177, if_pos c_178, if_pos c_179, if_pos c_180, bnd_r w_181]) ok_181 d_Pa_expression_213
              · refine lv_aload_n hx hb d_Pa_expression_184 rfl (lv_at hl 2 rfl) ?_
                refine lv_iload hx hb d_Pa_expression_185 (lv_at hl 1 rfl) ?_
                refine lv_iload_n hx hb d_Pa_expression_187 rfl (lv_at hl 4 rfl) ?_
                refine lv_iload_n hx hb d_Pa_expression_188 rfl (lv_at hl 5 rfl) ?_
                refine mx_Vv (As := [.int (f_Tr_count (sTr st_1)), .int depth, .int inn]) (rest := []) ⟨hx, hb, hml, hown, hts0⟩ (m_Pa_conditional l hlt dC dI cI cZ sa rk hp h a1 a2 a3 a4 ht hq n1 n2 fr0 lo0 E S F hRE hRS hRF hc ad_177 st_177 ok_177 _ (f_Tr_count (sTr st_1)) depth inn (fun z => hg (by unfold f_Pa_expression; rw [bnd_r w_1, if_neg c_2, if_pos c_116, if_pos c_117, if_pos c_118, if_neg c_119, bnd_r w_176, bnd_r w_177, if_pos c_178, if_neg c_179, bnd_n z]))) hP hD hK hS hA hC hZ hnt hlocks L_699 L_701 L_31 L_87 L_702 k_Pa_conditional ⟨(by show _ ≤ fr0 + 10; omega), (by show _ ≤ lo0 + 374; omega)⟩ rfl rfl hl.1 (Nat.le_of_ble_eq_true rfl) d_Pa_expression_189 rfl (fun q z => by unfold f_Pa_expression; rw [bnd_r w_1, if_neg c_2, if_pos c_116, if_pos c_117, if_pos c_118, if_neg c_119, bnd_r w_176, bnd_r w_177, if_pos c_178, if_neg c_179, bnd_l z]) hcl hsl (fun ad_182 st_182 H locs w_182 ok_182 e1_182 e2_182 hP hD hS => ?_)
                have hcl := cl_next hcl e1_182
                have hsl := cl_next hsl e2_182
                refine lv_aload_n hx hb d_Pa_expression_192 rfl (lv_at hl 2 rfl) ?_
                refine lv_iload hx hb d_Pa_expression_193 (lv_at hl 1 rfl) ?_
                refine lv_iload_n hx hb d_Pa_expression_195 rfl (lv_at hl 4 rfl) ?_
                refine lv_iload_n hx hb d_Pa_expression_196 rfl (lv_at hl 5 rfl) ?_
                refine mx_Vv (As := [.int (f_Tr_count (sTr st_1)), .int depth, .int inn]) (rest := []) ⟨hx, hb, hml, hown, hts0⟩ (m_Pa_assignment l hlt dC dI cI cZ sa rk hp h a1 a2 a3 a4 ht hq n1 n2 fr0 lo0 E S F hRE hRS hRF hc ad_182 st_182 ok_182 _ (f_Tr_count (sTr st_1)) depth inn (fun z => hg (by unfold f_Pa_expression; rw [bnd_r w_1, if_neg c_2, if_pos c_116, if_pos c_117, if_pos c_118, if_neg c_119, bnd_r w_176, bnd_r w_177, if_pos c_178, if_neg c_179, bnd_r w_182, bnd_n z]))) hP hD hK hS hA hC hZ hnt hlocks L_703 L_705 L_32 L_87 L_706 k_Pa_assignment ⟨(by show _ ≤ fr0 + 10; omega), (by show _ ≤ lo0 + 374; omega)⟩ rfl rfl hl.1 (Nat.le_of_ble_eq_true rfl) d_Pa_expression_197 rfl (fun q z => by unfold f_Pa_expression; rw [bnd_r w_1, if_neg c_2, if_pos c_116, if_pos c_117, if_pos c_118, if_neg c_119, bnd_r w_176, bnd_r w_177, if_pos c_178, if_neg c_179, bnd_r w_182, bnd_l z]) hcl hsl (fun ad_183 st_183 H locs w_183 ok_183 e1_183 e2_183 hP hD hS => ?_)
                have hcl := cl_next hcl e1_183
                have hsl := cl_next hsl e2_183
                refine lv_iload_n hx hb d_Pa_expression_200 rfl (lv_at hl 3 rfl) ?_
                refine lv_iconst (v := (-1)) hx hb d_Pa_expression_201 (by decide) ?_
                refine lv_icmp_ne (tgt := 213) hx hb d_Pa_expression_202 (by decide) (fun c_184 => ?_) (fun c_184 => ?_)
                · exact mx_vret (stF := st_183) hx hb hr hlocks hK hP hD hS hcl hsl (by unfold f_Pa_expression; rw [bnd_r w_1, if_neg c_2, if_pos c_116, if_pos c_117, if_pos c_118, if_neg c_119, bnd_r w_176, bnd_r w_177, if_pos c_178, if_neg c_179, bnd_r w_182, bnd_r w_183, if_neg c_184]) ok_183 d_Pa_expression_213
                · refine lv_aload_n hx hb d_Pa_expression_205 rfl (lv_at hl 2 rfl) ?_
                  refine lv_iload hx hb d_Pa_expression_206 (lv_at hl 1 rfl) ?_
                  refine lv_iload_n hx hb d_Pa_expression_208 rfl (lv_at hl 4 rfl) ?_
                  refine lv_iload_n hx hb d_Pa_expression_209 rfl (lv_at hl 5 rfl) ?_
                  refine mx_Vv (As := [.int (f_Tr_count (sTr st_1)), .int depth, .int inn]) (rest := []) ⟨hx, hb, hml, hown, hts0⟩ (m_Pa_commas l hlt dC dI cI cZ sa rk hp h a1 a2 a3 a4 ht hq n1 n2 fr0 lo0 E S F hRE hRS hRF hc ad_183 st_183 ok_183 _ (f_Tr_count (sTr st_1)) depth inn (fun z => hg (by unfold f_Pa_expression; rw [bnd_r w_1, if_neg c_2, if_pos c_116, if_pos c_117, if_pos c_118, if_neg c_119, bnd_r w_176, bnd_r w_177, if_pos c_178, if_neg c_179, bnd_r w_182, bnd_r w_183, if_pos c_184, bnd_n z]))) hP hD hK hS hA hC hZ hnt hlocks L_707 L_709 L_33 L_87 L_710 k_Pa_commas ⟨(by show _ ≤ fr0 + 10; omega), (by show _ ≤ lo0 + 374; omega)⟩ rfl rfl hl.1 (Nat.le_of_ble_eq_true rfl) d_Pa_expression_210 rfl (fun q z => by unfold f_Pa_expression; rw [bnd_r w_1, if_neg c_2, if_pos c_116, if_pos c_117, if_pos c_118, if_neg c_119, bnd_r w_176, bnd_r w_177, if_pos c_178, if_neg c_179, bnd_r w_182, bnd_r w_183, if_pos c_184, bnd_l z]) hcl hsl (fun ad_185 st_185 H locs w_185 ok_185 e1_185 e2_185 hP hD hS => ?_)
                  have hcl := cl_next hcl e1_185
                  have hsl := cl_next hsl e2_185
                  exact mx_vret (stF := st_185) hx hb hr hlocks hK hP hD hS hcl hsl (by unfold f_Pa_expression; rw [bnd_r w_1, if_neg c_2, if_pos c_116, if_pos c_117, if_pos c_118, if_neg c_119, bnd_r w_176, bnd_r w_177, if_pos c_178, if_neg c_179, bnd_r w_182, bnd_r w_183, if_pos c_184, bnd_r w_185]) ok_185 d_Pa_expression_213
            · refine lv_aload_n hx hb d_Pa_expression_167 rfl (lv_at hl 2 rfl) ?_
              refine lv_iload hx hb d_Pa_expression_168 (lv_at hl 1 rfl) ?_
              refine lv_iload_n hx hb d_Pa_expression_170 rfl (lv_at hl 3 rfl) ?_
              refine lv_iconst (v := 1) hx hb d_Pa_expression_171 (by decide) ?_
              refine va_mmax hx hb (hml.trans hl.1.symm) hown (hts _ L_682) (hts _ L_637) (hts _ L_96) (hts _ L_638) (by show _ ≤ fr0 + 10; omega) (Nat.le_trans (m := 21) (Nat.le_of_ble_eq_true rfl) (by show _ ≤ lo0 + 374; omega)) (Nat.le_trans (Nat.le_add_right _ _) hcl) (Nat.le_trans (Nat.le_add_right _ _) hsl) d_Pa_expression_172 ?_
              refine lv_iload_n hx hb d_Pa_expression_175 rfl (lv_at hl 4 rfl) ?_
              refine lv_iload_n hx hb d_Pa_expression_176 rfl (lv_at hl 5 rfl) ?_
              refine mx_Vv (As := [.int (f_Tr_count (sTr st_1)), .int (if level < 1 then 1 else level), .int depth, .int inn]) (rest := []) ⟨hx, hb, hml, hown, hts0⟩ (m_Pa_binaries l hlt dC dI cI cZ sa rk hp h a1 a2 a3 a4 ht hq n1 n2 fr0 lo0 E S F hRE hRS hRF hc ad_177 st_177 ok_177 _ (f_Tr_count (sTr st_1)) (if level < 1 then 1 else level) depth inn (fun z => hg (by unfold f_Pa_expression; rw [bnd_r w_1, if_neg c_2, if_pos c_116, if_pos c_117, if_pos c_118, if_neg c_119, bnd_r w_176, bnd_r w_177, if_neg c_178, bnd_n z]))) hP hD hK hS hA hC hZ hnt hlocks L_683 L_685 L_30 L_87 L_686 k_Pa_binaries ⟨(by show _ ≤ fr0 + 10; omega), (by show _ ≤ lo0 + 374; omega)⟩ rfl rfl hl.1 (Nat.le_of_ble_eq_true rfl) d_Pa_expression_177 rfl (fun q z => by unfold f_Pa_expression; rw [bnd_r w_1, if_neg c_2, if_pos c_116, if_pos c_117, if_pos c_118, if_neg c_119, bnd_r w_176, bnd_r w_177, if_neg c_178, bnd_l z]) hcl hsl (fun ad_186 st_186 H locs w_186 ok_186 e1_186 e2_186 hP hD hS => ?_)
              have hcl := cl_next hcl e1_186
              have hsl := cl_next hsl e2_186
              refine lv_iload_n hx hb d_Pa_expression_180 rfl (lv_at hl 3 rfl) ?_
              refine lv_if_gt (tgt := 200) hx hb d_Pa_expression_181 (by decide) (fun c_187 => ?_) (fun c_187 => ?_)
              · refine lv_iload_n hx hb d_Pa_expression_200 rfl (lv_at hl 3 rfl) ?_
                refine lv_iconst (v := (-1)) hx hb d_Pa_expression_201 (by decide) ?_
                refine lv_icmp_ne (tgt := 213) hx hb d_Pa_expression_202 (by decide) (fun c_188 => ?_) (fun c_188 => ?_)
                · exact mx_vret (stF := st_186) hx hb hr hlocks hK hP hD hS hcl hsl (by unfold f_Pa_expression; rw [bnd_r w_1, if_neg c_2, if_pos c_116, if_pos c_117, if_pos c_118, if_neg c_119, bnd_r w_176, bnd_r w_177, if_neg c_178, bnd_r w_186, if_pos c_187, if_neg c_188]) ok_186 d_Pa_expression_213
                · refine lv_aload_n hx hb d_Pa_expression_205 rfl (lv_at hl 2 rfl) ?_
                  refine lv_iload hx hb d_Pa_expression_206 (lv_at hl 1 rfl) ?_
                  refine lv_iload_n hx hb d_Pa_expression_208 rfl (lv_at hl 4 rfl) ?_
                  refine lv_iload_n hx hb d_Pa_expression_209 rfl (lv_at hl 5 rfl) ?_
                  refine mx_Vv (As := [.int (f_Tr_count (sTr st_1)), .int depth, .int inn]) (rest := []) ⟨hx, hb, hml, hown, hts0⟩ (m_Pa_commas l hlt dC dI cI cZ sa rk hp h a1 a2 a3 a4 ht hq n1 n2 fr0 lo0 E S F hRE hRS hRF hc ad_186 st_186 ok_186 _ (f_Tr_count (sTr st_1)) depth inn (fun z => hg (by unfold f_Pa_expression; rw [bnd_r w_1, if_neg c_2, if_pos c_116, if_pos c_117, if_pos c_118, if_neg c_119, bnd_r w_176, bnd_r w_177, if_neg c_178, bnd_r w_186, if_pos c_187, if_pos c_188, bnd_n z]))) hP hD hK hS hA hC hZ hnt hlocks L_707 L_709 L_33 L_87 L_710 k_Pa_commas ⟨(by show _ ≤ fr0 + 10; omega), (by show _ ≤ lo0 + 374; omega)⟩ rfl rfl hl.1 (Nat.le_of_ble_eq_true rfl) d_Pa_expression_210 rfl (fun q z => by unfold f_Pa_expression; rw [bnd_r w_1, if_neg c_2, if_pos c_116, if_pos c_117, if_pos c_118, if_neg c_119, bnd_r w_176, bnd_r w_177, if_neg c_178, bnd_r w_186, if_pos c_187, if_pos c_188, bnd_l z]) hcl hsl (fun ad_189 st_189 H locs w_189 ok_189 e1_189 e2_189 hP hD hS => ?_)
                  have hcl := cl_next hcl e1_189
                  have hsl := cl_next hsl e2_189
                  exact mx_vret (stF := st_189) hx hb hr hlocks hK hP hD hS hcl hsl (by unfold f_Pa_expression; rw [bnd_r w_1, if_neg c_2, if_pos c_116, if_pos c_117, if_pos c_118, if_neg c_119, bnd_r w_176, bnd_r w_177, if_neg c_178, bnd_r w_186, if_pos c_187, if_pos c_188, bnd_r w_189]) ok_189 d_Pa_expression_213
              · refine lv_aload_n hx hb d_Pa_expression_184 rfl (lv_at hl 2 rfl) ?_
                refine lv_iload hx hb d_Pa_expression_185 (lv_at hl 1 rfl) ?_
                refine lv_iload_n hx hb d_Pa_expression_187 rfl (lv_at hl 4 rfl) ?_
                refine lv_iload_n hx hb d_Pa_expression_188 rfl (lv_at hl 5 rfl) ?_
                refine mx_Vv (As := [.int (f_Tr_count (sTr st_1)), .int depth, .int inn]) (rest := []) ⟨hx, hb, hml, hown, hts0⟩ (m_Pa_conditional l hlt dC dI cI cZ sa rk hp h a1 a2 a3 a4 ht hq n1 n2 fr0 lo0 E S F hRE hRS hRF hc ad_186 st_186 ok_186 _ (f_Tr_count (sTr st_1)) depth inn (fun z => hg (by unfold f_Pa_expression; rw [bnd_r w_1, if_neg c_2, if_pos c_116, if_pos c_117, if_pos c_118, if_neg c_119, bnd_r w_176, bnd_r w_177, if_neg c_178, bnd_r w_186, if_neg c_187, bnd_n z]))) hP hD hK hS hA hC hZ hnt hlocks L_699 L_701 L_31 L_87 L_702 k_Pa_conditional ⟨(by show _ ≤ fr0 + 10; omega), (by show _ ≤ lo0 + 374; omega)⟩ rfl rfl hl.1 (Nat.le_of_ble_eq_true rfl) d_Pa_expression_189 rfl (fun q z => by unfold f_Pa_expression; rw [bnd_r w_1, if_neg c_2, if_pos c_116, if_pos c_117, if_pos c_118, if_neg c_119, bnd_r w_176, bnd_r w_177, if_neg c_178, bnd_r w_186, if_neg c_187, bnd_l z]) hcl hsl (fun ad_190 st_190 H locs w_190 ok_190 e1_190 e2_190 hP hD hS => ?_)
                have hcl := cl_next hcl e1_190
                have hsl := cl_next hsl e2_190
                refine lv_aload_n hx hb d_Pa_expression_192 rfl (lv_at hl 2 rfl) ?_
                refine lv_iload hx hb d_Pa_expression_193 (lv_at hl 1 rfl) ?_
                refine lv_iload_n hx hb d_Pa_expression_195 rfl (lv_at hl 4 rfl) ?_
                refine lv_iload_n hx hb d_Pa_expression_196 rfl (lv_at hl 5 rfl) ?_
                refine mx_Vv (As := [.int (f_Tr_count (sTr st_1)), .int depth, .int inn]) (rest := []) ⟨hx, hb, hml, hown, hts0⟩ (m_Pa_assignment l hlt dC dI cI cZ sa rk hp h a1 a2 a3 a4 ht hq n1 n2 fr0 lo0 E S F hRE hRS hRF hc ad_190 st_190 ok_190 _ (f_Tr_count (sTr st_1)) depth inn (fun z => hg (by unfold f_Pa_expression; rw [bnd_r w_1, if_neg c_2, if_pos c_116, if_pos c_117, if_pos c_118, if_neg c_119, bnd_r w_176, bnd_r w_177, if_neg c_178, bnd_r w_186, if_neg c_187, bnd_r w_190, bnd_n z]))) hP hD hK hS hA hC hZ hnt hlocks L_703 L_705 L_32 L_87 L_706 k_Pa_assignment ⟨(by show _ ≤ fr0 + 10; omega), (by show _ ≤ lo0 + 374; omega)⟩ rfl rfl hl.1 (Nat.le_of_ble_eq_true rfl) d_Pa_expression_197 rfl (fun q z => by unfold f_Pa_expression; rw [bnd_r w_1, if_neg c_2, if_pos c_116, if_pos c_117, if_pos c_118, if_neg c_119, bnd_r w_176, bnd_r w_177, if_neg c_178, bnd_r w_186, if_neg c_187, bnd_r w_190, bnd_l z]) hcl hsl (fun ad_191 st_191 H locs w_191 ok_191 e1_191 e2_191 hP hD hS => ?_)
                have hcl := cl_next hcl e1_191
                have hsl := cl_next hsl e2_191
                refine lv_iload_n hx hb d_Pa_expression_200 rfl (lv_at hl 3 rfl) ?_
                refine lv_iconst (v := (-1)) hx hb d_Pa_expression_201 (by decide) ?_
                refine lv_icmp_ne (tgt := 213) hx hb d_Pa_expression_202 (by decide) (fun c_192 => ?_) (fun c_192 => ?_)
                · exact mx_vret (stF := st_191) hx hb hr hlocks hK hP hD hS hcl hsl (by unfold f_Pa_expression; rw [bnd_r w_1, if_neg c_2, if_pos c_116, if_pos c_117, if_pos c_118, if_neg c_119, bnd_r w_176, bnd_r w_177, if_neg c_178, bnd_r w_186, if_neg c_187, bnd_r w_190, bnd_r w_191, if_neg c_192]) ok_191 d_Pa_expression_213
                · refine lv_aload_n hx hb d_Pa_expression_205 rfl (lv_at hl 2 rfl) ?_
                  refine lv_iload hx hb d_Pa_expression_206 (lv_at hl 1 rfl) ?_
                  refine lv_iload_n hx hb d_Pa_expression_208 rfl (lv_at hl 4 rfl) ?_
                  refine lv_iload_n hx hb d_Pa_expression_209 rfl (lv_at hl 5 rfl) ?_
                  refine mx_Vv (As := [.int (f_Tr_count (sTr st_1)), .int depth, .int inn]) (rest := []) ⟨hx, hb, hml, hown, hts0⟩ (m_Pa_commas l hlt dC dI cI cZ sa rk hp h a1 a2 a3 a4 ht hq n1 n2 fr0 lo0 E S F hRE hRS hRF hc ad_191 st_191 ok_191 _ (f_Tr_count (sTr st_1)) depth inn (fun z => hg (by unfold f_Pa_expression; rw [bnd_r w_1, if_neg c_2, if_pos c_116, if_pos c_117, if_pos c_118, if_neg c_119, bnd_r w_176, bnd_r w_177, if_neg c_178, bnd_r w_186, if_neg c_187, bnd_r w_190, bnd_r w_191, if_pos c_192, bnd_n z]))) hP hD hK hS hA hC hZ hnt hlocks L_707 L_709 L_33 L_87 L_710 k_Pa_commas ⟨(by show _ ≤ fr0 + 10; omega), (by show _ ≤ lo0 + 374; omega)⟩ rfl rfl hl.1 (Nat.le_of_ble_eq_true rfl) d_Pa_expression_210 rfl (fun q z => by unfold f_Pa_expression; rw [bnd_r w_1, if_neg c_2, if_pos c_116, if_pos c_117, if_pos c_118, if_neg c_119, bnd_r w_176, bnd_r w_177, if_neg c_178, bnd_r w_186, if_neg c_187, bnd_r w_190, bnd_r w_191, if_pos c_192, bnd_l z]) hcl hsl (fun ad_193 st_193 H locs w_193 ok_193 e1_193 e2_193 hP hD hS => ?_)
                  have hcl := cl_next hcl e1_193
                  have hsl := cl_next hsl e2_193
                  exact mx_vret (stF := st_193) hx hb hr hlocks hK hP hD hS hcl hsl (by unfold f_Pa_expression; rw [bnd_r w_1, if_neg c_2, if_pos c_116, if_pos c_117, if_pos c_118, if_neg c_119, bnd_r w_176, bnd_r w_177, if_neg c_178, bnd_r w_186, if_neg c_187, bnd_r w_190, bnd_r w_191, if_pos c_192, bnd_r w_193]) ok_193 d_Pa_expression_213
        · refine lv_aload_n hx hb d_Pa_expression_72 rfl (lv_at hl 2 rfl) ?_
          refine lv_iload_n hx hb d_Pa_expression_73 rfl (lv_at hl 4 rfl) ?_
          refine mx_Vv (As := [.int depth]) (rest := []) ⟨hx, hb, hml, hown, hts0⟩ (m_Pa_array l hlt dC dI cI cZ sa rk hp h a1 a2 a3 a4 ht hq n1 n2 fr0 lo0 E S F hRE hRS hRF hc ad_1 st_1 ok_1 _ depth (fun z => hg (by unfold f_Pa_expression; rw [bnd_r w_1, if_neg c_2, if_pos c_116, if_pos c_117, if_neg c_118, bnd_n z]))) hP hD hK hS hA hC hZ hnt hlocks L_595 L_597 L_17 L_87 L_598 k_Pa_array ⟨(by show _ ≤ fr0 + 10; omega), (by show _ ≤ lo0 + 374; omega)⟩ rfl rfl hl.1 (Nat.le_of_ble_eq_true rfl) d_Pa_expression_74 rfl (fun q z => by unfold f_Pa_expression; rw [bnd_r w_1, if_neg c_2, if_pos c_116, if_pos c_117, if_neg c_118, bnd_l z]) hcl hsl (fun ad_194 st_194 H locs w_194 ok_194 e1_194 e2_194 hP hD hS => ?_)
          have hcl := cl_next hcl e1_194
          have hsl := cl_next hsl e2_194
          refine lv_goto (tgt := 137) hx hb d_Pa_expression_77 (by decide) ?_
          refine lv_iload hx hb d_Pa_expression_137 (lv_at hl 0 rfl) ?_
          refine lv_iconst (v := (-1)) hx hb d_Pa_expression_139 (by decide) ?_
          refine lv_icmp_ne (tgt := 161) hx hb d_Pa_expression_140 (by decide) (fun q9 => absurd c_116 q9) (fun _ => ?_)
          refine lv_aload_n hx hb d_Pa_expression_143 rfl (lv_at hl 2 rfl) ?_
          refine lv_iload hx hb d_Pa_expression_144 (lv_at hl 1 rfl) ?_
          refine lv_iload_n hx hb d_Pa_expression_146 rfl (lv_at hl 4 rfl) ?_
          refine lv_iload_n hx hb d_Pa_expression_147 rfl (lv_at hl 3 rfl) ?_
          refine lv_bipush (v := 12) hx hb d_Pa_expression_148 (by decide) ?_
          refine lv_icmp_ge (tgt := 157) hx hb d_Pa_expression_150 (by decide) (fun q9 => absurd q9 c_2) (fun _ => ?_)
          refine lv_iconst (v := 1) hx hb d_Pa_expression_153 (by decide) ?_
          refine lv_goto (tgt := 158) hx hb d_Pa_expression_154 (by decide) ?_
          refine mx_Vv (As := [.int (f_Tr_count (sTr st_1)), .int depth, .int 1]) (rest := []) ⟨hx, hb, hml, hown, hts0⟩ (m_Pa_tails l hlt dC dI cI cZ sa rk hp h a1 a2 a3 a4 ht hq n1 n2 fr0 lo0 E S F hRE hRS hRF hc ad_194 st_194 ok_194 _ (f_Tr_count (sTr st_1)) depth 1 (fun z => hg (by unfold f_Pa_expression; rw [bnd_r w_1, if_neg c_2, if_pos c_116, if_pos c_117, if_neg c_118, bnd_r w_194, bnd_n z]))) hP hD hK hS hA hC hZ hnt hlocks L_661 L_663 L_27 L_87 L_664 k_Pa_tails ⟨(by show _ ≤ fr0 + 10; omega), (by show _ ≤ lo0 + 374; omega)⟩ rfl rfl hl.1 (Nat.le_of_ble_eq_true rfl) d_Pa_expression_158 rfl (fun q z => by unfold f_Pa_expression; rw [bnd_r w_1, if_neg c_2, if_pos c_116, if_pos c_117, if_neg c_118, bnd_r w_194, bnd_l z]) hcl hsl (fun ad_195 st_195 H locs w_195 ok_195 e1_195 e2_195 hP hD hS => ?_)
          have hcl := cl_next hcl e1_195
          have hsl := cl_next hsl e2_195
          refine lv_iload_n hx hb d_Pa_expression_161 rfl (lv_at hl 3 rfl) ?_
          refine lv_bipush (v := 10) hx hb d_Pa_expression_162 (by decide) ?_
          refine lv_icmp_gt (tgt := 180) hx hb d_Pa_expression_164 (by decide) (fun c_196 => ?_) (fun c_196 => ?_)
          · refine lv_iload_n hx hb d_Pa_expression_180 rfl (lv_at hl 3 rfl) ?_
            refine lv_if_gt (tgt := 200) hx hb d_Pa_expression_181 (by decide) (fun c_197 => ?_) (fun c_197 => ?_)
            · refine lv_iload_n hx hb d_Pa_expression_200 rfl (lv_at hl 3 rfl) ?_
              refine lv_iconst (v := (-1)) hx hb d_Pa_expression_201 (by decide) ?_
              refine lv_icmp_ne (tgt := 213) hx hb d_Pa_expression_202 (by decide) (fun c_198 => ?_) (fun c_198 => ?_)
              · exact mx_vret (stF := st_195) hx hb hr hlocks hK hP hD hS hcl hsl (by unfold f_Pa_expression; rw [bnd_r w_1, if_neg c_2, if_pos c_116, if_pos c_117, if_neg c_118, bnd_r w_194, bnd_r w_195, if_pos c_196, if_pos c_197, if_neg c_198]) ok_195 d_Pa_expression_213
              · refine lv_aload_n hx hb d_Pa_expression_205 rfl (lv_at hl 2 rfl) ?_
                refine lv_iload hx hb d_Pa_expression_206 (lv_at hl 1 rfl) ?_
                refine lv_iload_n hx hb d_Pa_expression_208 rfl (lv_at hl 4 rfl) ?_
                refine lv_iload_n hx hb d_Pa_expression_209 rfl (lv_at hl 5 rfl) ?_
                refine mx_Vv (As := [.int (f_Tr_count (sTr st_1)), .int depth, .int inn]) (rest := []) ⟨hx, hb, hml, hown, hts0⟩ (m_Pa_commas l hlt dC dI cI cZ sa rk hp h a1 a2 a3 a4 ht hq n1 n2 fr0 lo0 E S F hRE hRS hRF hc ad_195 st_195 ok_195 _ (f_Tr_count (sTr st_1)) depth inn (fun z => hg (by unfold f_Pa_expression; rw [bnd_r w_1, if_neg c_2, if_pos c_116, if_pos c_117, if_neg c_118, bnd_r w_194, bnd_r w_195, if_pos c_196, if_pos c_197, if_pos c_198, bnd_n z]))) hP hD hK hS hA hC hZ hnt hlocks L_707 L_709 L_33 L_87 L_710 k_Pa_commas ⟨(by show _ ≤ fr0 + 10; omega), (by show _ ≤ lo0 + 374; omega)⟩ rfl rfl hl.1 (Nat.le_of_ble_eq_true rfl) d_Pa_expression_210 rfl (fun q z => by unfold f_Pa_expression; rw [bnd_r w_1, if_neg c_2, if_pos c_116, if_pos c_117, if_neg c_118, bnd_r w_194, bnd_r w_195, if_pos c_196, if_pos c_197, if_pos c_198, bnd_l z]) hcl hsl (fun ad_199 st_199 H locs w_199 ok_199 e1_199 e2_199 hP hD hS => ?_)
                have hcl := cl_next hcl e1_199
                have hsl := cl_next hsl e2_199
                exact mx_vret (stF := st_199) hx hb hr hlocks hK hP hD hS hcl hsl (by unfold f_Pa_expression; rw [bnd_r w_1, if_neg c_2, if_pos c_116, if_pos c_117, if_neg c_118, bnd_r w_194, bnd_r w_195, if_pos c_196, if_pos c_197, if_pos c_198, bnd_r w_199]) ok_199 d_Pa_expression_213
            · refine lv_aload_n hx hb d_Pa_expression_184 rfl (lv_at hl 2 rfl) ?_
              refine lv_iload hx hb d_Pa_expression_185 (lv_at hl 1 rfl) ?_
              refine lv_iload_n hx hb d_Pa_expression_187 rfl (lv_at hl 4 rfl) ?_
              refine lv_iload_n hx hb d_Pa_expression_188 rfl (lv_at hl 5 rfl) ?_
              refine mx_Vv (As := [.int (f_Tr_count (sTr st_1)), .int depth, .int inn]) (rest := []) ⟨hx, hb, hml, hown, hts0⟩ (m_Pa_conditional l hlt dC dI cI cZ sa rk hp h a1 a2 a3 a4 ht hq n1 n2 fr0 lo0 E S F hRE hRS hRF hc ad_195 st_195 ok_195 _ (f_Tr_count (sTr st_1)) depth inn (fun z => hg (by unfold f_Pa_expression; rw [bnd_r w_1, if_neg c_2, if_pos c_116, if_pos c_117, if_neg c_118, bnd_r w_194, bnd_r w_195, if_pos c_196, if_neg c_197, bnd_n z]))) hP hD hK hS hA hC hZ hnt hlocks L_699 L_701 L_31 L_87 L_702 k_Pa_conditional ⟨(by show _ ≤ fr0 + 10; omega), (by show _ ≤ lo0 + 374; omega)⟩ rfl rfl hl.1 (Nat.le_of_ble_eq_true rfl) d_Pa_expression_189 rfl (fun q z => by unfold f_Pa_expression; rw [bnd_r w_1, if_neg c_2, if_pos c_116, if_pos c_117, if_neg c_118, bnd_r w_194, bnd_r w_195, if_pos c_196, if_neg c_197, bnd_l z]) hcl hsl (fun ad_200 st_200 H locs w_200 ok_200 e1_200 e2_200 hP hD hS => ?_)
              have hcl := cl_next hcl e1_200
              have hsl := cl_next hsl e2_200
              refine lv_aload_n hx hb d_Pa_expression_192 rfl (lv_at hl 2 rfl) ?_
              refine lv_iload hx hb d_Pa_expression_193 (lv_at hl 1 rfl) ?_
              refine lv_iload_n hx hb d_Pa_expression_195 rfl (lv_at hl 4 rfl) ?_
              refine lv_iload_n hx hb d_Pa_expression_196 rfl (lv_at hl 5 rfl) ?_
              refine mx_Vv (As := [.int (f_Tr_count (sTr st_1)), .int depth, .int inn]) (rest := []) ⟨hx, hb, hml, hown, hts0⟩ (m_Pa_assignment l hlt dC dI cI cZ sa rk hp h a1 a2 a3 a4 ht hq n1 n2 fr0 lo0 E S F hRE hRS hRF hc ad_200 st_200 ok_200 _ (f_Tr_count (sTr st_1)) depth inn (fun z => hg (by unfold f_Pa_expression; rw [bnd_r w_1, if_neg c_2, if_pos c_116, if_pos c_117, if_neg c_118, bnd_r w_194, bnd_r w_195, if_pos c_196, if_neg c_197, bnd_r w_200, bnd_n z]))) hP hD hK hS hA hC hZ hnt hlocks L_703 L_705 L_32 L_87 L_706 k_Pa_assignment ⟨(by show _ ≤ fr0 + 10; omega), (by show _ ≤ lo0 + 374; omega)⟩ rfl rfl hl.1 (Nat.le_of_ble_eq_true rfl) d_Pa_expression_197 rfl (fun q z => by unfold f_Pa_expression; rw [bnd_r w_1, if_neg c_2, if_pos c_116, if_pos c_117, if_neg c_118, bnd_r w_194, bnd_r w_195, if_pos c_196, if_neg c_197, bnd_r w_200, bnd_l z]) hcl hsl (fun ad_201 st_201 H locs w_201 ok_201 e1_201 e2_201 hP hD hS => ?_)
              have hcl := cl_next hcl e1_201
              have hsl := cl_next hsl e2_201
              refine lv_iload_n hx hb d_Pa_expression_200 rfl (lv_at hl 3 rfl) ?_
              refine lv_iconst (v := (-1)) hx hb d_Pa_expression_201 (by decide) ?_
              refine lv_icmp_ne (tgt := 213) hx hb d_Pa_expression_202 (by decide) (fun c_202 => ?_) (fun c_202 => ?_)
              · exact mx_vret (stF := st_201) hx hb hr hlocks hK hP hD hS hcl hsl (by unfold f_Pa_expression; rw [bnd_r w_1, if_neg c_2, if_pos c_116, if_pos c_117, if_neg c_118, bnd_r w_194, bnd_r w_195, if_pos c_196, if_neg c_197, bnd_r w_200, bnd_r w_201, if_neg c_202]) ok_201 d_Pa_expression_213
              · refine lv_aload_n hx hb d_Pa_expression_205 rfl (lv_at hl 2 rfl) ?_
                refine lv_iload hx hb d_Pa_expression_206 (lv_at hl 1 rfl) ?_
                refine lv_iload_n hx hb d_Pa_expression_208 rfl (lv_at hl 4 rfl) ?_
                refine lv_iload_n hx hb d_Pa_expression_209 rfl (lv_at hl 5 rfl) ?_
                refine mx_Vv (As := [.int (f_Tr_count (sTr st_1)), .int depth, .int inn]) (rest := []) ⟨hx, hb, hml, hown, hts0⟩ (m_Pa_commas l hlt dC dI cI cZ sa rk hp h a1 a2 a3 a4 ht hq n1 n2 fr0 lo0 E S F hRE hRS hRF hc ad_201 st_201 ok_201 _ (f_Tr_count (sTr st_1)) depth inn (fun z => hg (by unfold f_Pa_expression; rw [bnd_r w_1, if_neg c_2, if_pos c_116, if_pos c_117, if_neg c_118, bnd_r w_194, bnd_r w_195, if_pos c_196, if_neg c_197, bnd_r w_200, bnd_r w_201, if_pos c_202, bnd_n z]))) hP hD hK hS hA hC hZ hnt hlocks L_707 L_709 L_33 L_87 L_710 k_Pa_commas ⟨(by show _ ≤ fr0 + 10; omega), (by show _ ≤ lo0 + 374; omega)⟩ rfl rfl hl.1 (Nat.le_of_ble_eq_true rfl) d_Pa_expression_210 rfl (fun q z => by unfold f_Pa_expression; rw [bnd_r w_1, if_neg c_2, if_pos c_116, if_pos c_117, if_neg c_118, bnd_r w_194, bnd_r w_195, if_pos c_196, if_neg c_197, bnd_r w_200, bnd_r w_201, if_pos c_202, bnd_l z]) hcl hsl (fun ad_203 st_203 H locs w_203 ok_203 e1_203 e2_203 hP hD hS => ?_)
                have hcl := cl_next hcl e1_203
                have hsl := cl_next hsl e2_203
                exact mx_vret (stF := st_203) hx hb hr hlocks hK hP hD hS hcl hsl (by unfold f_Pa_expression; rw [bnd_r w_1, if_neg c_2, if_pos c_116, if_pos c_117, if_neg c_118, bnd_r w_194, bnd_r w_195, if_pos c_196, if_neg c_197, bnd_r w_200, bnd_r w_201, if_pos c_202, bnd_r w_203]) ok_203 d_Pa_expression_213
          · refine lv_aload_n hx hb d_Pa_expression_167 rfl (lv_at hl 2 rfl) ?_
            refine lv_iload hx hb d_Pa_expression_168 (lv_at hl 1 rfl) ?_
            refine lv_iload_n hx hb d_Pa_expression_170 rfl (lv_at hl 3 rfl) ?_
            refine lv_iconst (v := 1) hx hb d_Pa_expression_171 (by decide) ?_
            refine va_mmax hx hb (hml.trans hl.1.symm) hown (hts _ L_682) (hts _ L_637) (hts _ L_96) (hts _ L_638) (by show _ ≤ fr0 + 10; omega) (Nat.le_trans (m := 21) (Nat.le_of_ble_eq_true rfl) (by show _ ≤ lo0 + 374; omega)) (Nat.le_trans (Nat.le_add_right _ _) hcl) (Nat.le_trans (Nat.le_add_right _ _) hsl) d_Pa_expression_172 ?_
            refine lv_iload_n hx hb d_Pa_expression_175 rfl (lv_at hl 4 rfl) ?_
            refine lv_iload_n hx hb d_Pa_expression_176 rfl (lv_at hl 5 rfl) ?_
            refine mx_Vv (As := [.int (f_Tr_count (sTr st_1)), .int (if level < 1 then 1 else level), .int depth, .int inn]) (rest := []) ⟨hx, hb, hml, hown, hts0⟩ (m_Pa_binaries l hlt dC dI cI cZ sa rk hp h a1 a2 a3 a4 ht hq n1 n2 fr0 lo0 E S F hRE hRS hRF hc ad_195 st_195 ok_195 _ (f_Tr_count (sTr st_1)) (if level < 1 then 1 else level) depth inn (fun z => hg (by unfold f_Pa_expression; rw [bnd_r w_1, if_neg c_2, if_pos c_116, if_pos c_117, if_neg c_118, bnd_r w_194, bnd_r w_195, if_neg c_196, bnd_n z]))) hP hD hK hS hA hC hZ hnt hlocks L_683 L_685 L_30 L_87 L_686 k_Pa_binaries ⟨(by show _ ≤ fr0 + 10; omega), (by show _ ≤ lo0 + 374; omega)⟩ rfl rfl hl.1 (Nat.le_of_ble_eq_true rfl) d_Pa_expression_177 rfl (fun q z => by unfold f_Pa_expression; rw [bnd_r w_1, if_neg c_2, if_pos c_116, if_pos c_117, if_neg c_118, bnd_r w_194, bnd_r w_195, if_neg c_196, bnd_l z]) hcl hsl (fun ad_204 st_204 H locs w_204 ok_204 e1_204 e2_204 hP hD hS => ?_)
            have hcl := cl_next hcl e1_204
            have hsl := cl_next hsl e2_204
            refine lv_iload_n hx hb d_Pa_expression_180 rfl (lv_at hl 3 rfl) ?_
            refine lv_if_gt (tgt := 200) hx hb d_Pa_expression_181 (by decide) (fun c_205 => ?_) (fun c_205 => ?_)
            · refine lv_iload_n hx hb d_Pa_expression_200 rfl (lv_at hl 3 rfl) ?_
              refine lv_iconst (v := (-1)) hx hb d_Pa_expression_201 (by decide) ?_
              refine lv_icmp_ne (tgt := 213) hx hb d_Pa_expression_202 (by decide) (fun c_206 => ?_) (fun c_206 => ?_)
              · exact mx_vret (stF := st_204) hx hb hr hlocks hK hP hD hS hcl hsl (by unfold f_Pa_expression; rw [bnd_r w_1, if_neg c_2, if_pos c_116, if_pos c_117, if_neg c_118, bnd_r w_194, bnd_r w_195, if_neg c_196, bnd_r w_204, if_pos c_205, if_neg c_206]) ok_204 d_Pa_expression_213
              · refine lv_aload_n hx hb d_Pa_expression_205 rfl (lv_at hl 2 rfl) ?_
                refine lv_iload hx hb d_Pa_expression_206 (lv_at hl 1 rfl) ?_
                refine lv_iload_n hx hb d_Pa_expression_208 rfl (lv_at hl 4 rfl) ?_
                refine lv_iload_n hx hb d_Pa_expression_209 rfl (lv_at hl 5 rfl) ?_
                refine mx_Vv (As := [.int (f_Tr_count (sTr st_1)), .int depth, .int inn]) (rest := []) ⟨hx, hb, hml, hown, hts0⟩ (m_Pa_commas l hlt dC dI cI cZ sa rk hp h a1 a2 a3 a4 ht hq n1 n2 fr0 lo0 E S F hRE hRS hRF hc ad_204 st_204 ok_204 _ (f_Tr_count (sTr st_1)) depth inn (fun z => hg (by unfold f_Pa_expression; rw [bnd_r w_1, if_neg c_2, if_pos c_116, if_pos c_117, if_neg c_118, bnd_r w_194, bnd_r w_195, if_neg c_196, bnd_r w_204, if_pos c_205, if_pos c_206, bnd_n z]))) hP hD hK hS hA hC hZ hnt hlocks L_707 L_709 L_33 L_87 L_710 k_Pa_commas ⟨(by show _ ≤ fr0 + 10; omega), (by show _ ≤ lo0 + 374; omega)⟩ rfl rfl hl.1 (Nat.le_of_ble_eq_true rfl) d_Pa_expression_210 rfl (fun q z => by unfold f_Pa_expression; rw [bnd_r w_1, if_neg c_2, if_pos c_116, if_pos c_117, if_neg c_118, bnd_r w_194, bnd_r w_195, if_neg c_196, bnd_r w_204, if_pos c_205, if_pos c_206, bnd_l z]) hcl hsl (fun ad_207 st_207 H locs w_207 ok_207 e1_207 e2_207 hP hD hS => ?_)
                have hcl := cl_next hcl e1_207
                have hsl := cl_next hsl e2_207
                exact mx_vret (stF := st_207) hx hb hr hlocks hK hP hD hS hcl hsl (by unfold f_Pa_expression; rw [bnd_r w_1, if_neg c_2, if_pos c_116, if_pos c_117, if_neg c_118, bnd_r w_194, bnd_r w_195, if_neg c_196, bnd_r w_204, if_pos c_205, if_pos c_206, bnd_r w_207]) ok_207 d_Pa_expression_213
            · refine lv_aload_n hx hb d_Pa_expression_184 rfl (lv_at hl 2 rfl) ?_
              refine lv_iload hx hb d_Pa_expression_185 (lv_at hl 1 rfl) ?_
              refine lv_iload_n hx hb d_Pa_expression_187 rfl (lv_at hl 4 rfl) ?_
              refine lv_iload_n hx hb d_Pa_expression_188 rfl (lv_at hl 5 rfl) ?_
              refine mx_Vv (As := [.int (f_Tr_count (sTr st_1)), .int depth, .int inn]) (rest := []) ⟨hx, hb, hml, hown, hts0⟩ (m_Pa_conditional l hlt dC dI cI cZ sa rk hp h a1 a2 a3 a4 ht hq n1 n2 fr0 lo0 E S F hRE hRS hRF hc ad_204 st_204 ok_204 _ (f_Tr_count (sTr st_1)) depth inn (fun z => hg (by unfold f_Pa_expression; rw [bnd_r w_1, if_neg c_2, if_pos c_116, if_pos c_117, if_neg c_118, bnd_r w_194, bnd_r w_195, if_neg c_196, bnd_r w_204, if_neg c_205, bnd_n z]))) hP hD hK hS hA hC hZ hnt hlocks L_699 L_701 L_31 L_87 L_702 k_Pa_conditional ⟨(by show _ ≤ fr0 + 10; omega), (by show _ ≤ lo0 + 374; omega)⟩ rfl rfl hl.1 (Nat.le_of_ble_eq_true rfl) d_Pa_expression_189 rfl (fun q z => by unfold f_Pa_expression; rw [bnd_r w_1, if_neg c_2, if_pos c_116, if_pos c_117, if_neg c_118, bnd_r w_194, bnd_r w_195, if_neg c_196, bnd_r w_204, if_neg c_205, bnd_l z]) hcl hsl (fun ad_208 st_208 H locs w_208 ok_208 e1_208 e2_208 hP hD hS => ?_)
              have hcl := cl_next hcl e1_208
              have hsl := cl_next hsl e2_208
              refine lv_aload_n hx hb d_Pa_expression_192 rfl (lv_at hl 2 rfl) ?_
              refine lv_iload hx hb d_Pa_expression_193 (lv_at hl 1 rfl) ?_
              refine lv_iload_n hx hb d_Pa_expression_195 rfl (lv_at hl 4 rfl) ?_
              refine lv_iload_n hx hb d_Pa_expression_196 rfl (lv_at hl 5 rfl) ?_
              refine mx_Vv (As := [.int (f_Tr_count (sTr st_1)), .int depth, .int inn]) (rest := []) ⟨hx, hb, hml, hown, hts0⟩ (m_Pa_assignment l hlt dC dI cI cZ sa rk hp h a1 a2 a3 a4 ht hq n1 n2 fr0 lo0 E S F hRE hRS hRF hc ad_208 st_208 ok_208 _ (f_Tr_count (sTr st_1)) depth inn (fun z => hg (by unfold f_Pa_expression; rw [bnd_r w_1, if_neg c_2, if_pos c_116, if_pos c_117, if_neg c_118, bnd_r w_194, bnd_r w_195, if_neg c_196, bnd_r w_204, if_neg c_205, bnd_r w_208, bnd_n z]))) hP hD hK hS hA hC hZ hnt hlocks L_703 L_705 L_32 L_87 L_706 k_Pa_assignment ⟨(by show _ ≤ fr0 + 10; omega), (by show _ ≤ lo0 + 374; omega)⟩ rfl rfl hl.1 (Nat.le_of_ble_eq_true rfl) d_Pa_expression_197 rfl (fun q z => by unfold f_Pa_expression; rw [bnd_r w_1, if_neg c_2, if_pos c_116, if_pos c_117, if_neg c_118, bnd_r w_194, bnd_r w_195, if_neg c_196, bnd_r w_204, if_neg c_205, bnd_r w_208, bnd_l z]) hcl hsl (fun ad_209 st_209 H locs w_209 ok_209 e1_209 e2_209 hP hD hS => ?_)
              have hcl := cl_next hcl e1_209
              have hsl := cl_next hsl e2_209
              refine lv_iload_n hx hb d_Pa_expression_200 rfl (lv_at hl 3 rfl) ?_
              refine lv_iconst (v := (-1)) hx hb d_Pa_expression_201 (by decide) ?_
              refine lv_icmp_ne (tgt := 213) hx hb d_Pa_expression_202 (by decide) (fun c_210 => ?_) (fun c_210 => ?_)
              · exact mx_vret (stF := st_209) hx hb hr hlocks hK hP hD hS hcl hsl (by unfold f_Pa_expression; rw [bnd_r w_1, if_neg c_2, if_pos c_116, if_pos c_117, if_neg c_118, bnd_r w_194, bnd_r w_195, if_neg c_196, bnd_r w_204, if_neg c_205, bnd_r w_208, bnd_r w_209, if_neg c_210]) ok_209 d_Pa_expression_213
              · refine lv_aload_n hx hb d_Pa_expression_205 rfl (lv_at hl 2 rfl) ?_
                refine lv_iload hx hb d_Pa_expression_206 (lv_at hl 1 rfl) ?_
                refine lv_iload_n hx hb d_Pa_expression_208 rfl (lv_at hl 4 rfl) ?_
                refine lv_iload_n hx hb d_Pa_expression_209 rfl (lv_at hl 5 rfl) ?_
                refine mx_Vv (As := [.int (f_Tr_count (sTr st_1)), .int depth, .int inn]) (rest := []) ⟨hx, hb, hml, hown, hts0⟩ (m_Pa_commas l hlt dC dI cI cZ sa rk hp h a1 a2 a3 a4 ht hq n1 n2 fr0 lo0 E S F hRE hRS hRF hc ad_209 st_209 ok_209 _ (f_Tr_count (sTr st_1)) depth inn (fun z => hg (by unfold f_Pa_expression; rw [bnd_r w_1, if_neg c_2, if_pos c_116, if_pos c_117, if_neg c_118, bnd_r w_194, bnd_r w_195, if_neg c_196, bnd_r w_204, if_neg c_205, bnd_r w_208, bnd_r w_209, if_pos c_210, bnd_n z]))) hP hD hK hS hA hC hZ hnt hlocks L_707 L_709 L_33 L_87 L_710 k_Pa_commas ⟨(by show _ ≤ fr0 + 10; omega), (by show _ ≤ lo0 + 374; omega)⟩ rfl rfl hl.1 (Nat.le_of_ble_eq_true rfl) d_Pa_expression_210 rfl (fun q z => by unfold f_Pa_expression; rw [bnd_r w_1, if_neg c_2, if_pos c_116, if_pos c_117, if_neg c_118, bnd_r w_194, bnd_r w_195, if_neg c_196, bnd_r w_204, if_neg c_205, bnd_r w_208, bnd_r w_209, if_pos c_210, bnd_l z]) hcl hsl (fun ad_211 st_211 H locs w_211 ok_211 e1_211 e2_211 hP hD hS => ?_)
                have hcl := cl_next hcl e1_211
                have hsl := cl_next hsl e2_211
                exact mx_vret (stF := st_211) hx hb hr hlocks hK hP hD hS hcl hsl (by unfold f_Pa_expression; rw [bnd_r w_1, if_neg c_2, if_pos c_116, if_pos c_117, if_neg c_118, bnd_r w_194, bnd_r w_195, if_neg c_196, bnd_r w_204, if_neg c_205, bnd_r w_208, bnd_r w_209, if_pos c_210, bnd_r w_211]) ok_211 d_Pa_expression_213
      · refine lv_aload_n hx hb d_Pa_expression_55 rfl (lv_at hl 2 rfl) ?_
        refine lv_iload_n hx hb d_Pa_expression_56 rfl (lv_at hl 4 rfl) ?_
        refine mx_Vv (As := [.int depth]) (rest := []) ⟨hx, hb, hml, hown, hts0⟩ (m_Pa_group l hlt dC dI cI cZ sa rk hp h a1 a2 a3 a4 ht hq n1 n2 fr0 lo0 E S F hRE hRS hRF hc ad_1 st_1 ok_1 _ depth (fun z => hg (by unfold f_Pa_expression; rw [bnd_r w_1, if_neg c_2, if_pos c_116, if_neg c_117, bnd_n z]))) hP hD hK hS hA hC hZ hnt hlocks L_591 L_593 L_16 L_87 L_594 k_Pa_group ⟨(by show _ ≤ fr0 + 10; omega), (by show _ ≤ lo0 + 374; omega)⟩ rfl rfl hl.1 (Nat.le_of_ble_eq_true rfl) d_Pa_expression_57 rfl (fun q z => by unfold f_Pa_expression; rw [bnd_r w_1, if_neg c_2, if_pos c_116, if_neg c_117, bnd_l z]) hcl hsl (fun ad_212 st_212 H locs w_212 ok_212 e1_212 e2_212 hP hD hS => ?_)
        have hcl := cl_next hcl e1_212
        have hsl := cl_next hsl e2_212
        refine lv_goto (tgt := 137) hx hb d_Pa_expression_60 (by decide) ?_
        refine lv_iload hx hb d_Pa_expression_137 (lv_at hl 0 rfl) ?_
        refine lv_iconst (v := (-1)) hx hb d_Pa_expression_139 (by decide) ?_
        refine lv_icmp_ne (tgt := 161) hx hb d_Pa_expression_140 (by decide) (fun q9 => absurd c_116 q9) (fun _ => ?_)
        refine lv_aload_n hx hb d_Pa_expression_143 rfl (lv_at hl 2 rfl) ?_
        refine lv_iload hx hb d_Pa_expression_144 (lv_at hl 1 rfl) ?_
        refine lv_iload_n hx hb d_Pa_expression_146 rfl (lv_at hl 4 rfl) ?_
        refine lv_iload_n hx hb d_Pa_expression_147 rfl (lv_at hl 3 rfl) ?_
        refine lv_bipush (v := 12) hx hb d_Pa_expression_148 (by decide) ?_
        refine lv_icmp_ge (tgt := 157) hx hb d_Pa_expression_150 (by decide) (fun q9 => absurd q9 c_2) (fun _ => ?_)
        refine lv_iconst (v := 1) hx hb d_Pa_expression_153 (by decide) ?_
        refine lv_goto (tgt := 158) hx hb d_Pa_expression_154 (by decide) ?_
        refine mx_Vv (As := [.int (f_Tr_count (sTr st_1)), .int depth, .int 1]) (rest := []) ⟨hx, hb, hml, hown, hts0⟩ (m_Pa_tails l hlt dC dI cI cZ sa rk hp h a1 a2 a3 a4 ht hq n1 n2 fr0 lo0 E S F hRE hRS hRF hc ad_212 st_212 ok_212 _ (f_Tr_count (sTr st_1)) depth 1 (fun z => hg (by unfold f_Pa_expression; rw [bnd_r w_1, if_neg c_2, if_pos c_116, if_neg c_117, bnd_r w_212, bnd_n z]))) hP hD hK hS hA hC hZ hnt hlocks L_661 L_663 L_27 L_87 L_664 k_Pa_tails ⟨(by show _ ≤ fr0 + 10; omega), (by show _ ≤ lo0 + 374; omega)⟩ rfl rfl hl.1 (Nat.le_of_ble_eq_true rfl) d_Pa_expression_158 rfl (fun q z => by unfold f_Pa_expression; rw [bnd_r w_1, if_neg c_2, if_pos c_116, if_neg c_117, bnd_r w_212, bnd_l z]) hcl hsl (fun ad_213 st_213 H locs w_213 ok_213 e1_213 e2_213 hP hD hS => ?_)
        have hcl := cl_next hcl e1_213
        have hsl := cl_next hsl e2_213
        refine lv_iload_n hx hb d_Pa_expression_161 rfl (lv_at hl 3 rfl) ?_
        refine lv_bipush (v := 10) hx hb d_Pa_expression_162 (by decide) ?_
        refine lv_icmp_gt (tgt := 180) hx hb d_Pa_expression_164 (by decide) (fun c_214 => ?_) (fun c_214 => ?_)
        · refine lv_iload_n hx hb d_Pa_expression_180 rfl (lv_at hl 3 rfl) ?_
          refine lv_if_gt (tgt := 200) hx hb d_Pa_expression_181 (by decide) (fun c_215 => ?_) (fun c_215 => ?_)
          · refine lv_iload_n hx hb d_Pa_expression_200 rfl (lv_at hl 3 rfl) ?_
            refine lv_iconst (v := (-1)) hx hb d_Pa_expression_201 (by decide) ?_
            refine lv_icmp_ne (tgt := 213) hx hb d_Pa_expression_202 (by decide) (fun c_216 => ?_) (fun c_216 => ?_)
            · exact mx_vret (stF := st_213) hx hb hr hlocks hK hP hD hS hcl hsl (by unfold f_Pa_expression; rw [bnd_r w_1, if_neg c_2, if_pos c_116, if_neg c_117, bnd_r w_212, bnd_r w_213, if_pos c_214, if_pos c_215, if_neg c_216]) ok_213 d_Pa_expression_213
            · refine lv_aload_n hx hb d_Pa_expression_205 rfl (lv_at hl 2 rfl) ?_
              refine lv_iload hx hb d_Pa_expression_206 (lv_at hl 1 rfl) ?_
              refine lv_iload_n hx hb d_Pa_expression_208 rfl (lv_at hl 4 rfl) ?_
              refine lv_iload_n hx hb d_Pa_expression_209 rfl (lv_at hl 5 rfl) ?_
              refine mx_Vv (As := [.int (f_Tr_count (sTr st_1)), .int depth, .int inn]) (rest := []) ⟨hx, hb, hml, hown, hts0⟩ (m_Pa_commas l hlt dC dI cI cZ sa rk hp h a1 a2 a3 a4 ht hq n1 n2 fr0 lo0 E S F hRE hRS hRF hc ad_213 st_213 ok_213 _ (f_Tr_count (sTr st_1)) depth inn (fun z => hg (by unfold f_Pa_expression; rw [bnd_r w_1, if_neg c_2, if_pos c_116, if_neg c_117, bnd_r w_212, bnd_r w_213, if_pos c_214, if_pos c_215, if_pos c_216, bnd_n z]))) hP hD hK hS hA hC hZ hnt hlocks L_707 L_709 L_33 L_87 L_710 k_Pa_commas ⟨(by show _ ≤ fr0 + 10; omega), (by show _ ≤ lo0 + 374; omega)⟩ rfl rfl hl.1 (Nat.le_of_ble_eq_true rfl) d_Pa_expression_210 rfl (fun q z => by unfold f_Pa_expression; rw [bnd_r w_1, if_neg c_2, if_pos c_116, if_neg c_117, bnd_r w_212, bnd_r w_213, if_pos c_214, if_pos c_215, if_pos c_216, bnd_l z]) hcl hsl (fun ad_217 st_217 H locs w_217 ok_217 e1_217 e2_217 hP hD hS => ?_)
              have hcl := cl_next hcl e1_217
              have hsl := cl_next hsl e2_217
              exact mx_vret (stF := st_217) hx hb hr hlocks hK hP hD hS hcl hsl (by unfold f_Pa_expression; rw [bnd_r w_1, if_neg c_2, if_pos c_116, if_neg c_117, bnd_r w_212, bnd_r w_213, if_pos c_214, if_pos c_215, if_pos c_216, bnd_r w_217]) ok_217 d_Pa_expression_213
          · refine lv_aload_n hx hb d_Pa_expression_184 rfl (lv_at hl 2 rfl) ?_
            refine lv_iload hx hb d_Pa_expression_185 (lv_at hl 1 rfl) ?_
            refine lv_iload_n hx hb d_Pa_expression_187 rfl (lv_at hl 4 rfl) ?_
            refine lv_iload_n hx hb d_Pa_expression_188 rfl (lv_at hl 5 rfl) ?_
            refine mx_Vv (As := [.int (f_Tr_count (sTr st_1)), .int depth, .int inn]) (rest := []) ⟨hx, hb, hml, hown, hts0⟩ (m_Pa_conditional l hlt dC dI cI cZ sa rk hp h a1 a2 a3 a4 ht hq n1 n2 fr0 lo0 E S F hRE hRS hRF hc ad_213 st_213 ok_213 _ (f_Tr_count (sTr st_1)) depth inn (fun z => hg (by unfold f_Pa_expression; rw [bnd_r w_1, if_neg c_2, if_pos c_116, if_neg c_117, bnd_r w_212, bnd_r w_213, if_pos c_214, if_neg c_215, bnd_n z]))) hP hD hK hS hA hC hZ hnt hlocks L_699 L_701 L_31 L_87 L_702 k_Pa_conditional ⟨(by show _ ≤ fr0 + 10; omega), (by show _ ≤ lo0 + 374; omega)⟩ rfl rfl hl.1 (Nat.le_of_ble_eq_true rfl) d_Pa_expression_189 rfl (fun q z => by unfold f_Pa_expression; rw [bnd_r w_1, if_neg c_2, if_pos c_116, if_neg c_117, bnd_r w_212, bnd_r w_213, if_pos c_214, if_neg c_215, bnd_l z]) hcl hsl (fun ad_218 st_218 H locs w_218 ok_218 e1_218 e2_218 hP hD hS => ?_)
            have hcl := cl_next hcl e1_218
            have hsl := cl_next hsl e2_218
            refine lv_aload_n hx hb d_Pa_expression_192 rfl (lv_at hl 2 rfl) ?_
            refine lv_iload hx hb d_Pa_expression_193 (lv_at hl 1 rfl) ?_
            refine lv_iload_n hx hb d_Pa_expression_195 rfl (lv_at hl 4 rfl) ?_
            refine lv_iload_n hx hb d_Pa_expression_196 rfl (lv_at hl 5 rfl) ?_
            refine mx_Vv (As := [.int (f_Tr_count (sTr st_1)), .int depth, .int inn]) (rest := []) ⟨hx, hb, hml, hown, hts0⟩ (m_Pa_assignment l hlt dC dI cI cZ sa rk hp h a1 a2 a3 a4 ht hq n1 n2 fr0 lo0 E S F hRE hRS hRF hc ad_218 st_218 ok_218 _ (f_Tr_count (sTr st_1)) depth inn (fun z => hg (by unfold f_Pa_expression; rw [bnd_r w_1, if_neg c_2, if_pos c_116, if_neg c_117, bnd_r w_212, bnd_r w_213, if_pos c_214, if_neg c_215, bnd_r w_218, bnd_n z]))) hP hD hK hS hA hC hZ hnt hlocks L_703 L_705 L_32 L_87 L_706 k_Pa_assignment ⟨(by show _ ≤ fr0 + 10; omega), (by show _ ≤ lo0 + 374; omega)⟩ rfl rfl hl.1 (Nat.le_of_ble_eq_true rfl) d_Pa_expression_197 rfl (fun q z => by unfold f_Pa_expression; rw [bnd_r w_1, if_neg c_2, if_pos c_116, if_neg c_117, bnd_r w_212, bnd_r w_213, if_pos c_214, if_neg c_215, bnd_r w_218, bnd_l z]) hcl hsl (fun ad_219 st_219 H locs w_219 ok_219 e1_219 e2_219 hP hD hS => ?_)
            have hcl := cl_next hcl e1_219
            have hsl := cl_next hsl e2_219
            refine lv_iload_n hx hb d_Pa_expression_200 rfl (lv_at hl 3 rfl) ?_
            refine lv_iconst (v := (-1)) hx hb d_Pa_expression_201 (by decide) ?_
            refine lv_icmp_ne (tgt := 213) hx hb d_Pa_expression_202 (by decide) (fun c_220 => ?_) (fun c_220 => ?_)
            · exact mx_vret (stF := st_219) hx hb hr hlocks hK hP hD hS hcl hsl (by unfold f_Pa_expression; rw [bnd_r w_1, if_neg c_2, if_pos c_116, if_neg c_117, bnd_r w_212, bnd_r w_213, if_pos c_214, if_neg c_215, bnd_r w_218, bnd_r w_219, if_neg c_220]) ok_219 d_Pa_expression_213
            · refine lv_aload_n hx hb d_Pa_expression_205 rfl (lv_at hl 2 rfl) ?_
              refine lv_iload hx hb d_Pa_expression_206 (lv_at hl 1 rfl) ?_
              refine lv_iload_n hx hb d_Pa_expression_208 rfl (lv_at hl 4 rfl) ?_
              refine lv_iload_n hx hb d_Pa_expression_209 rfl (lv_at hl 5 rfl) ?_
              refine mx_Vv (As := [.int (f_Tr_count (sTr st_1)), .int depth, .int inn]) (rest := []) ⟨hx, hb, hml, hown, hts0⟩ (m_Pa_commas l hlt dC dI cI cZ sa rk hp h a1 a2 a3 a4 ht hq n1 n2 fr0 lo0 E S F hRE hRS hRF hc ad_219 st_219 ok_219 _ (f_Tr_count (sTr st_1)) depth inn (fun z => hg (by unfold f_Pa_expression; rw [bnd_r w_1, if_neg c_2, if_pos c_116, if_neg c_117, bnd_r w_212, bnd_r w_213, if_pos c_214, if_neg c_215, bnd_r w_218, bnd_r w_219, if_pos c_220, bnd_n z]))) hP hD hK hS hA hC hZ hnt hlocks L_707 L_709 L_33 L_87 L_710 k_Pa_commas ⟨(by show _ ≤ fr0 + 10; omega), (by show _ ≤ lo0 + 374; omega)⟩ rfl rfl hl.1 (Nat.le_of_ble_eq_true rfl) d_Pa_expression_210 rfl (fun q z => by unfold f_Pa_expression; rw [bnd_r w_1, if_neg c_2, if_pos c_116, if_neg c_117, bnd_r w_212, bnd_r w_213, if_pos c_214, if_neg c_215, bnd_r w_218, bnd_r w_219, if_pos c_220, bnd_l z]) hcl hsl (fun ad_221 st_221 H locs w_221 ok_221 e1_221 e2_221 hP hD hS => ?_)
              have hcl := cl_next hcl e1_221
              have hsl := cl_next hsl e2_221
              exact mx_vret (stF := st_221) hx hb hr hlocks hK hP hD hS hcl hsl (by unfold f_Pa_expression; rw [bnd_r w_1, if_neg c_2, if_pos c_116, if_neg c_117, bnd_r w_212, bnd_r w_213, if_pos c_214, if_neg c_215, bnd_r w_218, bnd_r w_219, if_pos c_220, bnd_r w_221]) ok_221 d_Pa_expression_213
        · refine lv_aload_n hx hb d_Pa_expression_167 rfl (lv_at hl 2 rfl) ?_
          refine lv_iload hx hb d_Pa_expression_168 (lv_at hl 1 rfl) ?_
          refine lv_iload_n hx hb d_Pa_expression_170 rfl (lv_at hl 3 rfl) ?_
          refine lv_iconst (v := 1) hx hb d_Pa_expression_171 (by decide) ?_
          refine va_mmax hx hb (hml.trans hl.1.symm) hown (hts _ L_682) (hts _ L_637) (hts _ L_96) (hts _ L_638) (by show _ ≤ fr0 + 10; omega) (Nat.le_trans (m := 21) (Nat.le_of_ble_eq_true rfl) (by show _ ≤ lo0 + 374; omega)) (Nat.le_trans (Nat.le_add_right _ _) hcl) (Nat.le_trans (Nat.le_add_right _ _) hsl) d_Pa_expression_172 ?_
          refine lv_iload_n hx hb d_Pa_expression_175 rfl (lv_at hl 4 rfl) ?_
          refine lv_iload_n hx hb d_Pa_expression_176 rfl (lv_at hl 5 rfl) ?_
          refine mx_Vv (As := [.int (f_Tr_count (sTr st_1)), .int (if level < 1 then 1 else level), .int depth, .int inn]) (rest := []) ⟨hx, hb, hml, hown, hts0⟩ (m_Pa_binaries l hlt dC dI cI cZ sa rk hp h a1 a2 a3 a4 ht hq n1 n2 fr0 lo0 E S F hRE hRS hRF hc ad_213 st_213 ok_213 _ (f_Tr_count (sTr st_1)) (if level < 1 then 1 else level) depth inn (fun z => hg (by unfold f_Pa_expression; rw [bnd_r w_1, if_neg c_2, if_pos c_116, if_neg c_117, bnd_r w_212, bnd_r w_213, if_neg c_214, bnd_n z]))) hP hD hK hS hA hC hZ hnt hlocks L_683 L_685 L_30 L_87 L_686 k_Pa_binaries ⟨(by show _ ≤ fr0 + 10; omega), (by show _ ≤ lo0 + 374; omega)⟩ rfl rfl hl.1 (Nat.le_of_ble_eq_true rfl) d_Pa_expression_177 rfl (fun q z => by unfold f_Pa_expression; rw [bnd_r w_1, if_neg c_2, if_pos c_116, if_neg c_117, bnd_r w_212, bnd_r w_213, if_neg c_214, bnd_l z]) hcl hsl (fun ad_222 st_222 H locs w_222 ok_222 e1_222 e2_222 hP hD hS => ?_)
          have hcl := cl_next hcl e1_222
          have hsl := cl_next hsl e2_222
          refine lv_iload_n hx hb d_Pa_expression_180 rfl (lv_at hl 3 rfl) ?_
          refine lv_if_gt (tgt := 200) hx hb d_Pa_expression_181 (by decide) (fun c_223 => ?_) (fun c_223 => ?_)
          · refine lv_iload_n hx hb d_Pa_expression_200 rfl (lv_at hl 3 rfl) ?_
            refine lv_iconst (v := (-1)) hx hb d_Pa_expression_201 (by decide) ?_
            refine lv_icmp_ne (tgt := 213) hx hb d_Pa_expression_202 (by decide) (fun c_224 => ?_) (fun c_224 => ?_)
            · exact mx_vret (stF := st_222) hx hb hr hlocks hK hP hD hS hcl hsl (by unfold f_Pa_expression; rw [bnd_r w_1, if_neg c_2, if_pos c_116, if_neg c_117, bnd_r w_212, bnd_r w_213, if_neg c_214, bnd_r w_222, if_pos c_223, if_neg c_224]) ok_222 d_Pa_expression_213
            · refine lv_aload_n hx hb d_Pa_expression_205 rfl (lv_at hl 2 rfl) ?_
              refine lv_iload hx hb d_Pa_expression_206 (lv_at hl 1 rfl) ?_
              refine lv_iload_n hx hb d_Pa_expression_208 rfl (lv_at hl 4 rfl) ?_
              refine lv_iload_n hx hb d_Pa_expression_209 rfl (lv_at hl 5 rfl) ?_
              refine mx_Vv (As := [.int (f_Tr_count (sTr st_1)), .int depth, .int inn]) (rest := []) ⟨hx, hb, hml, hown, hts0⟩ (m_Pa_commas l hlt dC dI cI cZ sa rk hp h a1 a2 a3 a4 ht hq n1 n2 fr0 lo0 E S F hRE hRS hRF hc ad_222 st_222 ok_222 _ (f_Tr_count (sTr st_1)) depth inn (fun z => hg (by unfold f_Pa_expression; rw [bnd_r w_1, if_neg c_2, if_pos c_116, if_neg c_117, bnd_r w_212, bnd_r w_213, if_neg c_214, bnd_r w_222, if_pos c_223, if_pos c_224, bnd_n z]))) hP hD hK hS hA hC hZ hnt hlocks L_707 L_709 L_33 L_87 L_710 k_Pa_commas ⟨(by show _ ≤ fr0 + 10; omega), (by show _ ≤ lo0 + 374; omega)⟩ rfl rfl hl.1 (Nat.le_of_ble_eq_true rfl) d_Pa_expression_210 rfl (fun q z => by unfold f_Pa_expression; rw [bnd_r w_1, if_neg c_2, if_pos c_116, if_neg c_117, bnd_r w_212, bnd_r w_213, if_neg c_214, bnd_r w_222, if_pos c_223, if_pos c_224, bnd_l z]) hcl hsl (fun ad_225 st_225 H locs w_225 ok_225 e1_225 e2_225 hP hD hS => ?_)
              have hcl := cl_next hcl e1_225
              have hsl := cl_next hsl e2_225
              exact mx_vret (stF := st_225) hx hb hr hlocks hK hP hD hS hcl hsl (by unfold f_Pa_expression; rw [bnd_r w_1, if_neg c_2, if_pos c_116, if_neg c_117, bnd_r w_212, bnd_r w_213, if_neg c_214, bnd_r w_222, if_pos c_223, if_pos c_224, bnd_r w_225]) ok_225 d_Pa_expression_213
          · refine lv_aload_n hx hb d_Pa_expression_184 rfl (lv_at hl 2 rfl) ?_
            refine lv_iload hx hb d_Pa_expression_185 (lv_at hl 1 rfl) ?_
            refine lv_iload_n hx hb d_Pa_expression_187 rfl (lv_at hl 4 rfl) ?_
            refine lv_iload_n hx hb d_Pa_expression_188 rfl (lv_at hl 5 rfl) ?_
            refine mx_Vv (As := [.int (f_Tr_count (sTr st_1)), .int depth, .int inn]) (rest := []) ⟨hx, hb, hml, hown, hts0⟩ (m_Pa_conditional l hlt dC dI cI cZ sa rk hp h a1 a2 a3 a4 ht hq n1 n2 fr0 lo0 E S F hRE hRS hRF hc ad_222 st_222 ok_222 _ (f_Tr_count (sTr st_1)) depth inn (fun z => hg (by unfold f_Pa_expression; rw [bnd_r w_1, if_neg c_2, if_pos c_116, if_neg c_117, bnd_r w_212, bnd_r w_213, if_neg c_214, bnd_r w_222, if_neg c_223, bnd_n z]))) hP hD hK hS hA hC hZ hnt hlocks L_699 L_701 L_31 L_87 L_702 k_Pa_conditional ⟨(by show _ ≤ fr0 + 10; omega), (by show _ ≤ lo0 + 374; omega)⟩ rfl rfl hl.1 (Nat.le_of_ble_eq_true rfl) d_Pa_expression_189 rfl (fun q z => by unfold f_Pa_expression; rw [bnd_r w_1, if_neg c_2, if_pos c_116, if_neg c_117, bnd_r w_212, bnd_r w_213, if_neg c_214, bnd_r w_222, if_neg c_223, bnd_l z]) hcl hsl (fun ad_226 st_226 H locs w_226 ok_226 e1_226 e2_226 hP hD hS => ?_)
            have hcl := cl_next hcl e1_226
            have hsl := cl_next hsl e2_226
            refine lv_aload_n hx hb d_Pa_expression_192 rfl (lv_at hl 2 rfl) ?_
            refine lv_iload hx hb d_Pa_expression_193 (lv_at hl 1 rfl) ?_
            refine lv_iload_n hx hb d_Pa_expression_195 rfl (lv_at hl 4 rfl) ?_
            refine lv_iload_n hx hb d_Pa_expression_196 rfl (lv_at hl 5 rfl) ?_
            refine mx_Vv (As := [.int (f_Tr_count (sTr st_1)), .int depth, .int inn]) (rest := []) ⟨hx, hb, hml, hown, hts0⟩ (m_Pa_assignment l hlt dC dI cI cZ sa rk hp h a1 a2 a3 a4 ht hq n1 n2 fr0 lo0 E S F hRE hRS hRF hc ad_226 st_226 ok_226 _ (f_Tr_count (sTr st_1)) depth inn (fun z => hg (by unfold f_Pa_expression; rw [bnd_r w_1, if_neg c_2, if_pos c_116, if_neg c_117, bnd_r w_212, bnd_r w_213, if_neg c_214, bnd_r w_222, if_neg c_223, bnd_r w_226, bnd_n z]))) hP hD hK hS hA hC hZ hnt hlocks L_703 L_705 L_32 L_87 L_706 k_Pa_assignment ⟨(by show _ ≤ fr0 + 10; omega), (by show _ ≤ lo0 + 374; omega)⟩ rfl rfl hl.1 (Nat.le_of_ble_eq_true rfl) d_Pa_expression_197 rfl (fun q z => by unfold f_Pa_expression; rw [bnd_r w_1, if_neg c_2, if_pos c_116, if_neg c_117, bnd_r w_212, bnd_r w_213, if_neg c_214, bnd_r w_222, if_neg c_223, bnd_r w_226, bnd_l z]) hcl hsl (fun ad_227 st_227 H locs w_227 ok_227 e1_227 e2_227 hP hD hS => ?_)
            have hcl := cl_next hcl e1_227
            have hsl := cl_next hsl e2_227
            refine lv_iload_n hx hb d_Pa_expression_200 rfl (lv_at hl 3 rfl) ?_
            refine lv_iconst (v := (-1)) hx hb d_Pa_expression_201 (by decide) ?_
            refine lv_icmp_ne (tgt := 213) hx hb d_Pa_expression_202 (by decide) (fun c_228 => ?_) (fun c_228 => ?_)
            · exact mx_vret (stF := st_227) hx hb hr hlocks hK hP hD hS hcl hsl (by unfold f_Pa_expression; rw [bnd_r w_1, if_neg c_2, if_pos c_116, if_neg c_117, bnd_r w_212, bnd_r w_213, if_neg c_214, bnd_r w_222, if_neg c_223, bnd_r w_226, bnd_r w_227, if_neg c_228]) ok_227 d_Pa_expression_213
            · refine lv_aload_n hx hb d_Pa_expression_205 rfl (lv_at hl 2 rfl) ?_
              refine lv_iload hx hb d_Pa_expression_206 (lv_at hl 1 rfl) ?_
              refine lv_iload_n hx hb d_Pa_expression_208 rfl (lv_at hl 4 rfl) ?_
              refine lv_iload_n hx hb d_Pa_expression_209 rfl (lv_at hl 5 rfl) ?_
              refine mx_Vv (As := [.int (f_Tr_count (sTr st_1)), .int depth, .int inn]) (rest := []) ⟨hx, hb, hml, hown, hts0⟩ (m_Pa_commas l hlt dC dI cI cZ sa rk hp h a1 a2 a3 a4 ht hq n1 n2 fr0 lo0 E S F hRE hRS hRF hc ad_227 st_227 ok_227 _ (f_Tr_count (sTr st_1)) depth inn (fun z => hg (by unfold f_Pa_expression; rw [bnd_r w_1, if_neg c_2, if_pos c_116, if_neg c_117, bnd_r w_212, bnd_r w_213, if_neg c_214, bnd_r w_222, if_neg c_223, bnd_r w_226, bnd_r w_227, if_pos c_228, bnd_n z]))) hP hD hK hS hA hC hZ hnt hlocks L_707 L_709 L_33 L_87 L_710 k_Pa_commas ⟨(by show _ ≤ fr0 + 10; omega), (by show _ ≤ lo0 + 374; omega)⟩ rfl rfl hl.1 (Nat.le_of_ble_eq_true rfl) d_Pa_expression_210 rfl (fun q z => by unfold f_Pa_expression; rw [bnd_r w_1, if_neg c_2, if_pos c_116, if_neg c_117, bnd_r w_212, bnd_r w_213, if_neg c_214, bnd_r w_222, if_neg c_223, bnd_r w_226, bnd_r w_227, if_pos c_228, bnd_l z]) hcl hsl (fun ad_229 st_229 H locs w_229 ok_229 e1_229 e2_229 hP hD hS => ?_)
              have hcl := cl_next hcl e1_229
              have hsl := cl_next hsl e2_229
              exact mx_vret (stF := st_229) hx hb hr hlocks hK hP hD hS hcl hsl (by unfold f_Pa_expression; rw [bnd_r w_1, if_neg c_2, if_pos c_116, if_neg c_117, bnd_r w_212, bnd_r w_213, if_neg c_214, bnd_r w_222, if_neg c_223, bnd_r w_226, bnd_r w_227, if_pos c_228, bnd_r w_229]) ok_229 d_Pa_expression_213
    · refine lv_aload_n hx hb d_Pa_expression_36 rfl (lv_at hl 2 rfl) ?_
      refine lv_iload hx hb d_Pa_expression_37 (lv_at hl 0 rfl) ?_
      refine lv_iload_n hx hb d_Pa_expression_39 rfl (lv_at hl 4 rfl) ?_
      refine mx_Vv (As := [.int (f_Pa_prefixOperator st_1), .int depth]) (rest := []) ⟨hx, hb, hml, hown, hts0⟩ (m_Pa_prefix l hlt dC dI cI cZ sa rk hp h a1 a2 a3 a4 ht hq n1 n2 fr0 lo0 E S F hRE hRS hRF hc ad_1 st_1 ok_1 _ (f_Pa_prefixOperator st_1) depth (fun z => hg (by unfold f_Pa_expression; rw [bnd_r w_1, if_neg c_2, if_neg c_116, bnd_n z]))) hP hD hK hS hA hC hZ hnt hlocks L_578 L_580 L_14 L_87 L_581 k_Pa_prefix ⟨(by show _ ≤ fr0 + 10; omega), (by show _ ≤ lo0 + 374; omega)⟩ rfl rfl hl.1 (Nat.le_of_ble_eq_true rfl) d_Pa_expression_40 rfl (fun q z => by unfold f_Pa_expression; rw [bnd_r w_1, if_neg c_2, if_neg c_116, bnd_l z]) hcl hsl (fun ad_230 st_230 H locs w_230 ok_230 e1_230 e2_230 hP hD hS => ?_)
      have hcl := cl_next hcl e1_230
      have hsl := cl_next hsl e2_230
      refine lv_goto (tgt := 137) hx hb d_Pa_expression_43 (by decide) ?_
      refine lv_iload hx hb d_Pa_expression_137 (lv_at hl 0 rfl) ?_
      refine lv_iconst (v := (-1)) hx hb d_Pa_expression_139 (by decide) ?_
      refine lv_icmp_ne (tgt := 161) hx hb d_Pa_expression_140 (by decide) (fun _ => ?_) (fun q9 => absurd q9 c_116)
      refine lv_iload_n hx hb d_Pa_expression_161 rfl (lv_at hl 3 rfl) ?_
      refine lv_bipush (v := 10) hx hb d_Pa_expression_162 (by decide) ?_
      refine lv_icmp_gt (tgt := 180) hx hb d_Pa_expression_164 (by decide) (fun c_231 => ?_) (fun c_231 => ?_)
      · refine lv_iload_n hx hb d_Pa_expression_180 rfl (lv_at hl 3 rfl) ?_
        refine lv_if_gt (tgt := 200) hx hb d_Pa_expression_181 (by decide) (fun c_232 => ?_) (fun c_232 => ?_)
        · refine lv_iload_n hx hb d_Pa_expression_200 rfl (lv_at hl 3 rfl) ?_
          refine lv_iconst (v := (-1)) hx hb d_Pa_expression_201 (by decide) ?_
          refine lv_icmp_ne (tgt := 213) hx hb d_Pa_expression_202 (by decide) (fun c_233 => ?_) (fun c_233 => ?_)
          · exact mx_vret (stF := st_230) hx hb hr hlocks hK hP hD hS hcl hsl (by unfold f_Pa_expression; rw [bnd_r w_1, if_neg c_2, if_neg c_116, bnd_r w_230, if_pos c_231, if_pos c_232, if_neg c_233]) ok_230 d_Pa_expression_213
          · refine lv_aload_n hx hb d_Pa_expression_205 rfl (lv_at hl 2 rfl) ?_
            refine lv_iload hx hb d_Pa_expression_206 (lv_at hl 1 rfl) ?_
            refine lv_iload_n hx hb d_Pa_expression_208 rfl (lv_at hl 4 rfl) ?_
            refine lv_iload_n hx hb d_Pa_expression_209 rfl (lv_at hl 5 rfl) ?_
            refine mx_Vv (As := [.int (f_Tr_count (sTr st_1)), .int depth, .int inn]) (rest := []) ⟨hx, hb, hml, hown, hts0⟩ (m_Pa_commas l hlt dC dI cI cZ sa rk hp h a1 a2 a3 a4 ht hq n1 n2 fr0 lo0 E S F hRE hRS hRF hc ad_230 st_230 ok_230 _ (f_Tr_count (sTr st_1)) depth inn (fun z => hg (by unfold f_Pa_expression; rw [bnd_r w_1, if_neg c_2, if_neg c_116, bnd_r w_230, if_pos c_231, if_pos c_232, if_pos c_233, bnd_n z]))) hP hD hK hS hA hC hZ hnt hlocks L_707 L_709 L_33 L_87 L_710 k_Pa_commas ⟨(by show _ ≤ fr0 + 10; omega), (by show _ ≤ lo0 + 374; omega)⟩ rfl rfl hl.1 (Nat.le_of_ble_eq_true rfl) d_Pa_expression_210 rfl (fun q z => by unfold f_Pa_expression; rw [bnd_r w_1, if_neg c_2, if_neg c_116, bnd_r w_230, if_pos c_231, if_pos c_232, if_pos c_233, bnd_l z]) hcl hsl (fun ad_234 st_234 H locs w_234 ok_234 e1_234 e2_234 hP hD hS => ?_)
            have hcl := cl_next hcl e1_234
            have hsl := cl_next hsl e2_234
            exact mx_vret (stF := st_234) hx hb hr hlocks hK hP hD hS hcl hsl (by unfold f_Pa_expression; rw [bnd_r w_1, if_neg c_2, if_neg c_116, bnd_r w_230, if_pos c_231, if_pos c_232, if_pos c_233, bnd_r w_234]) ok_234 d_Pa_expression_213
        · refine lv_aload_n hx hb d_Pa_expression_184 rfl (lv_at hl 2 rfl) ?_
          refine lv_iload hx hb d_Pa_expression_185 (lv_at hl 1 rfl) ?_
          refine lv_iload_n hx hb d_Pa_expression_187 rfl (lv_at hl 4 rfl) ?_
          refine lv_iload_n hx hb d_Pa_expression_188 rfl (lv_at hl 5 rfl) ?_
          refine mx_Vv (As := [.int (f_Tr_count (sTr st_1)), .int depth, .int inn]) (rest := []) ⟨hx, hb, hml, hown, hts0⟩ (m_Pa_conditional l hlt dC dI cI cZ sa rk hp h a1 a2 a3 a4 ht hq n1 n2 fr0 lo0 E S F hRE hRS hRF hc ad_230 st_230 ok_230 _ (f_Tr_count (sTr st_1)) depth inn (fun z => hg (by unfold f_Pa_expression; rw [bnd_r w_1, if_neg c_2, if_neg c_116, bnd_r w_230, if_pos c_231, if_neg c_232, bnd_n z]))) hP hD hK hS hA hC hZ hnt hlocks L_699 L_701 L_31 L_87 L_702 k_Pa_conditional ⟨(by show _ ≤ fr0 + 10; omega), (by show _ ≤ lo0 + 374; omega)⟩ rfl rfl hl.1 (Nat.le_of_ble_eq_true rfl) d_Pa_expression_189 rfl (fun q z => by unfold f_Pa_expression; rw [bnd_r w_1, if_neg c_2, if_neg c_116, bnd_r w_230, if_pos c_231, if_neg c_232, bnd_l z]) hcl hsl (fun ad_235 st_235 H locs w_235 ok_235 e1_235 e2_235 hP hD hS => ?_)
          have hcl := cl_next hcl e1_235
          have hsl := cl_next hsl e2_235
          refine lv_aload_n hx hb d_Pa_expression_192 rfl (lv_at hl 2 rfl) ?_
          refine lv_iload hx hb d_Pa_expression_193 (lv_at hl 1 rfl) ?_
          refine lv_iload_n hx hb d_Pa_expression_195 rfl (lv_at hl 4 rfl) ?_
          refine lv_iload_n hx hb d_Pa_expression_196 rfl (lv_at hl 5 rfl) ?_
          refine mx_Vv (As := [.int (f_Tr_count (sTr st_1)), .int depth, .int inn]) (rest := []) ⟨hx, hb, hml, hown, hts0⟩ (m_Pa_assignment l hlt dC dI cI cZ sa rk hp h a1 a2 a3 a4 ht hq n1 n2 fr0 lo0 E S F hRE hRS hRF hc ad_235 st_235 ok_235 _ (f_Tr_count (sTr st_1)) depth inn (fun z => hg (by unfold f_Pa_expression; rw [bnd_r w_1, if_neg c_2, if_neg c_116, bnd_r w_230, if_pos c_231, if_neg c_232, bnd_r w_235, bnd_n z]))) hP hD hK hS hA hC hZ hnt hlocks L_703 L_705 L_32 L_87 L_706 k_Pa_assignment ⟨(by show _ ≤ fr0 + 10; omega), (by show _ ≤ lo0 + 374; omega)⟩ rfl rfl hl.1 (Nat.le_of_ble_eq_true rfl) d_Pa_expression_197 rfl (fun q z => by unfold f_Pa_expression; rw [bnd_r w_1, if_neg c_2, if_neg c_116, bnd_r w_230, if_pos c_231, if_neg c_232, bnd_r w_235, bnd_l z]) hcl hsl (fun ad_236 st_236 H locs w_236 ok_236 e1_236 e2_236 hP hD hS => ?_)
          have hcl := cl_next hcl e1_236
          have hsl := cl_next hsl e2_236
          refine lv_iload_n hx hb d_Pa_expression_200 rfl (lv_at hl 3 rfl) ?_
          refine lv_iconst (v := (-1)) hx hb d_Pa_expression_201 (by decide) ?_
          refine lv_icmp_ne (tgt := 213) hx hb d_Pa_expression_202 (by decide) (fun c_237 => ?_) (fun c_237 => ?_)
          · exact mx_vret (stF := st_236) hx hb hr hlocks hK hP hD hS hcl hsl (by unfold f_Pa_expression; rw [bnd_r w_1, if_neg c_2, if_neg c_116, bnd_r w_230, if_pos c_231, if_neg c_232, bnd_r w_235, bnd_r w_236, if_neg c_237]) ok_236 d_Pa_expression_213
          · refine lv_aload_n hx hb d_Pa_expression_205 rfl (lv_at hl 2 rfl) ?_
            refine lv_iload hx hb d_Pa_expression_206 (lv_at hl 1 rfl) ?_
            refine lv_iload_n hx hb d_Pa_expression_208 rfl (lv_at hl 4 rfl) ?_
            refine lv_iload_n hx hb d_Pa_expression_209 rfl (lv_at hl 5 rfl) ?_
            refine mx_Vv (As := [.int (f_Tr_count (sTr st_1)), .int depth, .int inn]) (rest := []) ⟨hx, hb, hml, hown, hts0⟩ (m_Pa_commas l hlt dC dI cI cZ sa rk hp h a1 a2 a3 a4 ht hq n1 n2 fr0 lo0 E S F hRE hRS hRF hc ad_236 st_236 ok_236 _ (f_Tr_count (sTr st_1)) depth inn (fun z => hg (by unfold f_Pa_expression; rw [bnd_r w_1, if_neg c_2, if_neg c_116, bnd_r w_230, if_pos c_231, if_neg c_232, bnd_r w_235, bnd_r w_236, if_pos c_237, bnd_n z]))) hP hD hK hS hA hC hZ hnt hlocks L_707 L_709 L_33 L_87 L_710 k_Pa_commas ⟨(by show _ ≤ fr0 + 10; omega), (by show _ ≤ lo0 + 374; omega)⟩ rfl rfl hl.1 (Nat.le_of_ble_eq_true rfl) d_Pa_expression_210 rfl (fun q z => by unfold f_Pa_expression; rw [bnd_r w_1, if_neg c_2, if_neg c_116, bnd_r w_230, if_pos c_231, if_neg c_232, bnd_r w_235, bnd_r w_236, if_pos c_237, bnd_l z]) hcl hsl (fun ad_238 st_238 H locs w_238 ok_238 e1_238 e2_238 hP hD hS => ?_)
            have hcl := cl_next hcl e1_238
            have hsl := cl_next hsl e2_238
            exact mx_vret (stF := st_238) hx hb hr hlocks hK hP hD hS hcl hsl (by unfold f_Pa_expression; rw [bnd_r w_1, if_neg c_2, if_neg c_116, bnd_r w_230, if_pos c_231, if_neg c_232, bnd_r w_235, bnd_r w_236, if_pos c_237, bnd_r w_238]) ok_238 d_Pa_expression_213
      · refine lv_aload_n hx hb d_Pa_expression_167 rfl (lv_at hl 2 rfl) ?_
        refine lv_iload hx hb d_Pa_expression_168 (lv_at hl 1 rfl) ?_
        refine lv_iload_n hx hb d_Pa_expression_170 rfl (lv_at hl 3 rfl) ?_
        refine lv_iconst (v := 1) hx hb d_Pa_expression_171 (by decide) ?_
        refine va_mmax hx hb (hml.trans hl.1.symm) hown (hts _ L_682) (hts _ L_637) (hts _ L_96) (hts _ L_638) (by show _ ≤ fr0 + 10; omega) (Nat.le_trans (m := 21) (Nat.le_of_ble_eq_true rfl) (by show _ ≤ lo0 + 374; omega)) (Nat.le_trans (Nat.le_add_right _ _) hcl) (Nat.le_trans (Nat.le_add_right _ _) hsl) d_Pa_expression_172 ?_
        refine lv_iload_n hx hb d_Pa_expression_175 rfl (lv_at hl 4 rfl) ?_
        refine lv_iload_n hx hb d_Pa_expression_176 rfl (lv_at hl 5 rfl) ?_
        refine mx_Vv (As := [.int (f_Tr_count (sTr st_1)), .int (if level < 1 then 1 else level), .int depth, .int inn]) (rest := []) ⟨hx, hb, hml, hown, hts0⟩ (m_Pa_binaries l hlt dC dI cI cZ sa rk hp h a1 a2 a3 a4 ht hq n1 n2 fr0 lo0 E S F hRE hRS hRF hc ad_230 st_230 ok_230 _ (f_Tr_count (sTr st_1)) (if level < 1 then 1 else level) depth inn (fun z => hg (by unfold f_Pa_expression; rw [bnd_r w_1, if_neg c_2, if_neg c_116, bnd_r w_230, if_neg c_231, bnd_n z]))) hP hD hK hS hA hC hZ hnt hlocks L_683 L_685 L_30 L_87 L_686 k_Pa_binaries ⟨(by show _ ≤ fr0 + 10; omega), (by show _ ≤ lo0 + 374; omega)⟩ rfl rfl hl.1 (Nat.le_of_ble_eq_true rfl) d_Pa_expression_177 rfl (fun q z => by unfold f_Pa_expression; rw [bnd_r w_1, if_neg c_2, if_neg c_116, bnd_r w_230, if_neg c_231, bnd_l z]) hcl hsl (fun ad_239 st_239 H locs w_239 ok_239 e1_239 e2_239 hP hD hS => ?_)
        have hcl := cl_next hcl e1_239
        have hsl := cl_next hsl e2_239
        refine lv_iload_n hx hb d_Pa_expression_180 rfl (lv_at hl 3 rfl) ?_
        refine lv_if_gt (tgt := 200) hx hb d_Pa_expression_181 (by decide) (fun c_240 => ?_) (fun c_240 => ?_)
        · refine lv_iload_n hx hb d_Pa_expression_200 rfl (lv_at hl 3 rfl) ?_
          refine lv_iconst (v := (-1)) hx hb d_Pa_expression_201 (by decide) ?_
          refine lv_icmp_ne (tgt := 213) hx hb d_Pa_expression_202 (by decide) (fun c_241 => ?_) (fun c_241 => ?_)
          · exact mx_vret (stF := st_239) hx hb hr hlocks hK hP hD hS hcl hsl (by unfold f_Pa_expression; rw [bnd_r w_1, if_neg c_2, if_neg c_116, bnd_r w_230, if_neg c_231, bnd_r w_239, if_pos c_240, if_neg c_241]) ok_239 d_Pa_expression_213
          · refine lv_aload_n hx hb d_Pa_expression_205 rfl (lv_at hl 2 rfl) ?_
            refine lv_iload hx hb d_Pa_expression_206 (lv_at hl 1 rfl) ?_
            refine lv_iload_n hx hb d_Pa_expression_208 rfl (lv_at hl 4 rfl) ?_
            refine lv_iload_n hx hb d_Pa_expression_209 rfl (lv_at hl 5 rfl) ?_
            refine mx_Vv (As := [.int (f_Tr_count (sTr st_1)), .int depth, .int inn]) (rest := []) ⟨hx, hb, hml, hown, hts0⟩ (m_Pa_commas l hlt dC dI cI cZ sa rk hp h a1 a2 a3 a4 ht hq n1 n2 fr0 lo0 E S F hRE hRS hRF hc ad_239 st_239 ok_239 _ (f_Tr_count (sTr st_1)) depth inn (fun z => hg (by unfold f_Pa_expression; rw [bnd_r w_1, if_neg c_2, if_neg c_116, bnd_r w_230, if_neg c_231, bnd_r w_239, if_pos c_240, if_pos c_241, bnd_n z]))) hP hD hK hS hA hC hZ hnt hlocks L_707 L_709 L_33 L_87 L_710 k_Pa_commas ⟨(by show _ ≤ fr0 + 10; omega), (by show _ ≤ lo0 + 374; omega)⟩ rfl rfl hl.1 (Nat.le_of_ble_eq_true rfl) d_Pa_expression_210 rfl (fun q z => by unfold f_Pa_expression; rw [bnd_r w_1, if_neg c_2, if_neg c_116, bnd_r w_230, if_neg c_231, bnd_r w_239, if_pos c_240, if_pos c_241, bnd_l z]) hcl hsl (fun ad_242 st_242 H locs w_242 ok_242 e1_242 e2_242 hP hD hS => ?_)
            have hcl := cl_next hcl e1_242
            have hsl := cl_next hsl e2_242
            exact mx_vret (stF := st_242) hx hb hr hlocks hK hP hD hS hcl hsl (by unfold f_Pa_expression; rw [bnd_r w_1, if_neg c_2, if_neg c_116, bnd_r w_230, if_neg c_231, bnd_r w_239, if_pos c_240, if_pos c_241, bnd_r w_242]) ok_242 d_Pa_expression_213
        · refine lv_aload_n hx hb d_Pa_expression_184 rfl (lv_at hl 2 rfl) ?_
          refine lv_iload hx hb d_Pa_expression_185 (lv_at hl 1 rfl) ?_
          refine lv_iload_n hx hb d_Pa_expression_187 rfl (lv_at hl 4 rfl) ?_
          refine lv_iload_n hx hb d_Pa_expression_188 rfl (lv_at hl 5 rfl) ?_
          refine mx_Vv (As := [.int (f_Tr_count (sTr st_1)), .int depth, .int inn]) (rest := []) ⟨hx, hb, hml, hown, hts0⟩ (m_Pa_conditional l hlt dC dI cI cZ sa rk hp h a1 a2 a3 a4 ht hq n1 n2 fr0 lo0 E S F hRE hRS hRF hc ad_239 st_239 ok_239 _ (f_Tr_count (sTr st_1)) depth inn (fun z => hg (by unfold f_Pa_expression; rw [bnd_r w_1, if_neg c_2, if_neg c_116, bnd_r w_230, if_neg c_231, bnd_r w_239, if_neg c_240, bnd_n z]))) hP hD hK hS hA hC hZ hnt hlocks L_699 L_701 L_31 L_87 L_702 k_Pa_conditional ⟨(by show _ ≤ fr0 + 10; omega), (by show _ ≤ lo0 + 374; omega)⟩ rfl rfl hl.1 (Nat.le_of_ble_eq_true rfl) d_Pa_expression_189 rfl (fun q z => by unfold f_Pa_expression; rw [bnd_r w_1, if_neg c_2, if_neg c_116, bnd_r w_230, if_neg c_231, bnd_r w_239, if_neg c_240, bnd_l z]) hcl hsl (fun ad_243 st_243 H locs w_243 ok_243 e1_243 e2_243 hP hD hS => ?_)
          have hcl := cl_next hcl e1_243
          have hsl := cl_next hsl e2_243
          refine lv_aload_n hx hb d_Pa_expression_192 rfl (lv_at hl 2 rfl) ?_
          refine lv_iload hx hb d_Pa_expression_193 (lv_at hl 1 rfl) ?_
          refine lv_iload_n hx hb d_Pa_expression_195 rfl (lv_at hl 4 rfl) ?_
          refine lv_iload_n hx hb d_Pa_expression_196 rfl (lv_at hl 5 rfl) ?_
          refine mx_Vv (As := [.int (f_Tr_count (sTr st_1)), .int depth, .int inn]) (rest := []) ⟨hx, hb, hml, hown, hts0⟩ (m_Pa_assignment l hlt dC dI cI cZ sa rk hp h a1 a2 a3 a4 ht hq n1 n2 fr0 lo0 E S F hRE hRS hRF hc ad_243 st_243 ok_243 _ (f_Tr_count (sTr st_1)) depth inn (fun z => hg (by unfold f_Pa_expression; rw [bnd_r w_1, if_neg c_2, if_neg c_116, bnd_r w_230, if_neg c_231, bnd_r w_239, if_neg c_240, bnd_r w_243, bnd_n z]))) hP hD hK hS hA hC hZ hnt hlocks L_703 L_705 L_32 L_87 L_706 k_Pa_assignment ⟨(by show _ ≤ fr0 + 10; omega), (by show _ ≤ lo0 + 374; omega)⟩ rfl rfl hl.1 (Nat.le_of_ble_eq_true rfl) d_Pa_expression_197 rfl (fun q z => by unfold f_Pa_expression; rw [bnd_r w_1, if_neg c_2, if_neg c_116, bnd_r w_230, if_neg c_231, bnd_r w_239, if_neg c_240, bnd_r w_243, bnd_l z]) hcl hsl (fun ad_244 st_244 H locs w_244 ok_244 e1_244 e2_244 hP hD hS => ?_)
          have hcl := cl_next hcl e1_244
          have hsl := cl_next hsl e2_244
          refine lv_iload_n hx hb d_Pa_expression_200 rfl (lv_at hl 3 rfl) ?_
          refine lv_iconst (v := (-1)) hx hb d_Pa_expression_201 (by decide) ?_
          refine lv_icmp_ne (tgt := 213) hx hb d_Pa_expression_202 (by decide) (fun c_245 => ?_) (fun c_245 => ?_)
          · exact mx_vret (stF := st_244) hx hb hr hlocks hK hP hD hS hcl hsl (by unfold f_Pa_expression; rw [bnd_r w_1, if_neg c_2, if_neg c_116, bnd_r w_230, if_neg c_231, bnd_r w_239, if_neg c_240, bnd_r w_243, bnd_r w_244, if_neg c_245]) ok_244 d_Pa_expression_213
          · refine lv_aload_n hx hb d_Pa_expression_205 rfl (lv_at hl 2 rfl) ?_
            refine lv_iload hx hb d_Pa_expression_206 (lv_at hl 1 rfl) ?_
            refine lv_iload_n hx hb d_Pa_expression_208 rfl (lv_at hl 4 rfl) ?_
            refine lv_iload_n hx hb d_Pa_expression_209 rfl (lv_at hl 5 rfl) ?_
            refine mx_Vv (As := [.int (f_Tr_count (sTr st_1)), .int depth, .int inn]) (rest := []) ⟨hx, hb, hml, hown, hts0⟩ (m_Pa_commas l hlt dC dI cI cZ sa rk hp h a1 a2 a3 a4 ht hq n1 n2 fr0 lo0 E S F hRE hRS hRF hc ad_244 st_244 ok_244 _ (f_Tr_count (sTr st_1)) depth inn (fun z => hg (by unfold f_Pa_expression; rw [bnd_r w_1, if_neg c_2, if_neg c_116, bnd_r w_230, if_neg c_231, bnd_r w_239, if_neg c_240, bnd_r w_243, bnd_r w_244, if_pos c_245, bnd_n z]))) hP hD hK hS hA hC hZ hnt hlocks L_707 L_709 L_33 L_87 L_710 k_Pa_commas ⟨(by show _ ≤ fr0 + 10; omega), (by show _ ≤ lo0 + 374; omega)⟩ rfl rfl hl.1 (Nat.le_of_ble_eq_true rfl) d_Pa_expression_210 rfl (fun q z => by unfold f_Pa_expression; rw [bnd_r w_1, if_neg c_2, if_neg c_116, bnd_r w_230, if_neg c_231, bnd_r w_239, if_neg c_240, bnd_r w_243, bnd_r w_244, if_pos c_245, bnd_l z]) hcl hsl (fun ad_246 st_246 H locs w_246 ok_246 e1_246 e2_246 hP hD hS => ?_)
            have hcl := cl_next hcl e1_246
            have hsl := cl_next hsl e2_246
            exact mx_vret (stF := st_246) hx hb hr hlocks hK hP hD hS hcl hsl (by unfold f_Pa_expression; rw [bnd_r w_1, if_neg c_2, if_neg c_116, bnd_r w_230, if_neg c_231, bnd_r w_239, if_neg c_240, bnd_r w_243, bnd_r w_244, if_pos c_245, bnd_r w_246]) ok_246 d_Pa_expression_213
