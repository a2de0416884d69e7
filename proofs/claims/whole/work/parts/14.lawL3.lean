/-! the law: links, 3 -/
theorem w_1253 : Cond.methodLink "TapeStudioLaw" 141 ⟨"TapeStudio","open","(I)I"⟩ ∈ m_big := m_big_mem (i := 1253) (by decide +kernel) (by decide +kernel)
theorem w_1256 : Cond.code ⟨"TapeStudio","open","(I)I"⟩ prog_1_method_33_code 4 (Option.some .int) ∈ m_big := m_big_mem (i := 1256) (by decide +kernel) (by decide +kernel)
theorem w_1254 : Cond.instanceMethod ⟨"TapeStudio","open","(I)I"⟩ ∈ m_big := m_big_mem (i := 1254) (by decide +kernel) (by decide +kernel)
theorem w_1255 : Cond.selects "TapeStudio" ⟨"TapeStudio","open","(I)I"⟩ ⟨"TapeStudio","open","(I)I"⟩ ∈ m_big := m_big_mem (i := 1255) (by decide +kernel) (by decide +kernel)
theorem lm_L_141 : m_MV RL 141 yX10_open cX10_open 4 (some .int) 1 := ⟨⟨Or.inl w_1253, w_126, w_1256, by decide +kernel, by decide⟩, w_1254, w_1255⟩
theorem w_2123 : Cond.methodLink "TapeStudioLaw" 144 ⟨"TapeStudioModel","open","(I)I"⟩ ∈ m_big := m_big_mem (i := 2123) (by decide +kernel) (by decide +kernel)
theorem w_2126 : Cond.code ⟨"TapeStudioModel","open","(I)I"⟩ prog_13_method_88_code 3 (Option.some .int) ∈ m_big := m_big_mem (i := 2126) (by decide +kernel) (by decide +kernel)
theorem w_2124 : Cond.instanceMethod ⟨"TapeStudioModel","open","(I)I"⟩ ∈ m_big := m_big_mem (i := 2124) (by decide +kernel) (by decide +kernel)
theorem w_2125 : Cond.selects "TapeStudioModel" ⟨"TapeStudioModel","open","(I)I"⟩ ⟨"TapeStudioModel","open","(I)I"⟩ ∈ m_big := m_big_mem (i := 2125) (by decide +kernel) (by decide +kernel)
theorem lm_L_144 : m_MV RL 144 yX11_open cX11_open 3 (some .int) 1 := ⟨⟨Or.inl w_2123, w_135, w_2126, by decide +kernel, by decide⟩, w_2124, w_2125⟩
theorem w_1261 : Cond.methodLink "TapeStudioLaw" 145 ⟨"TapeStudio","turns","(I)I"⟩ ∈ m_big := m_big_mem (i := 1261) (by decide +kernel) (by decide +kernel)
theorem w_1264 : Cond.code ⟨"TapeStudio","turns","(I)I"⟩ prog_1_method_34_code 3 (Option.some .int) ∈ m_big := m_big_mem (i := 1264) (by decide +kernel) (by decide +kernel)
theorem w_1262 : Cond.instanceMethod ⟨"TapeStudio","turns","(I)I"⟩ ∈ m_big := m_big_mem (i := 1262) (by decide +kernel) (by decide +kernel)
theorem w_1263 : Cond.selects "TapeStudio" ⟨"TapeStudio","turns","(I)I"⟩ ⟨"TapeStudio","turns","(I)I"⟩ ∈ m_big := m_big_mem (i := 1263) (by decide +kernel) (by decide +kernel)
theorem lm_L_145 : m_MV RL 145 yX10_turns cX10_turns 3 (some .int) 1 := ⟨⟨Or.inl w_1261, w_126, w_1264, by decide +kernel, by decide⟩, w_1262, w_1263⟩
theorem w_2127 : Cond.methodLink "TapeStudioLaw" 148 ⟨"TapeStudioModel","turns","(I)I"⟩ ∈ m_big := m_big_mem (i := 2127) (by decide +kernel) (by decide +kernel)
theorem w_2130 : Cond.code ⟨"TapeStudioModel","turns","(I)I"⟩ prog_13_method_95_code 2 (Option.some .int) ∈ m_big := m_big_mem (i := 2130) (by decide +kernel) (by decide +kernel)
theorem w_2128 : Cond.instanceMethod ⟨"TapeStudioModel","turns","(I)I"⟩ ∈ m_big := m_big_mem (i := 2128) (by decide +kernel) (by decide +kernel)
theorem w_2129 : Cond.selects "TapeStudioModel" ⟨"TapeStudioModel","turns","(I)I"⟩ ⟨"TapeStudioModel","turns","(I)I"⟩ ∈ m_big := m_big_mem (i := 2129) (by decide +kernel) (by decide +kernel)
theorem lm_L_148 : m_MV RL 148 yX11_turns cX11_turns 2 (some .int) 1 := ⟨⟨Or.inl w_2127, w_135, w_2130, by decide +kernel, by decide⟩, w_2128, w_2129⟩
theorem w_1306 : Cond.methodLink "TapeStudioLaw" 149 ⟨"TapeStudio","turnOf","(II)I"⟩ ∈ m_big := m_big_mem (i := 1306) (by decide +kernel) (by decide +kernel)
theorem w_1309 : Cond.code ⟨"TapeStudio","turnOf","(II)I"⟩ prog_1_method_35_code 4 (Option.some .int) ∈ m_big := m_big_mem (i := 1309) (by decide +kernel) (by decide +kernel)
theorem w_1307 : Cond.instanceMethod ⟨"TapeStudio","turnOf","(II)I"⟩ ∈ m_big := m_big_mem (i := 1307) (by decide +kernel) (by decide +kernel)
theorem w_1308 : Cond.selects "TapeStudio" ⟨"TapeStudio","turnOf","(II)I"⟩ ⟨"TapeStudio","turnOf","(II)I"⟩ ∈ m_big := m_big_mem (i := 1308) (by decide +kernel) (by decide +kernel)
theorem lm_L_149 : m_MV RL 149 yX10_turnOf cX10_turnOf 4 (some .int) 2 := ⟨⟨Or.inl w_1306, w_126, w_1309, by decide +kernel, by decide⟩, w_1307, w_1308⟩
theorem w_2155 : Cond.methodLink "TapeStudioLaw" 152 ⟨"TapeStudioModel","turnOf","(II)I"⟩ ∈ m_big := m_big_mem (i := 2155) (by decide +kernel) (by decide +kernel)
theorem w_2158 : Cond.code ⟨"TapeStudioModel","turnOf","(II)I"⟩ prog_13_method_96_code 3 (Option.some .int) ∈ m_big := m_big_mem (i := 2158) (by decide +kernel) (by decide +kernel)
theorem w_2156 : Cond.instanceMethod ⟨"TapeStudioModel","turnOf","(II)I"⟩ ∈ m_big := m_big_mem (i := 2156) (by decide +kernel) (by decide +kernel)
theorem w_2157 : Cond.selects "TapeStudioModel" ⟨"TapeStudioModel","turnOf","(II)I"⟩ ⟨"TapeStudioModel","turnOf","(II)I"⟩ ∈ m_big := m_big_mem (i := 2157) (by decide +kernel) (by decide +kernel)
theorem lm_L_152 : m_MV RL 152 yX11_turnOf cX11_turnOf 3 (some .int) 2 := ⟨⟨Or.inl w_2155, w_135, w_2158, by decide +kernel, by decide⟩, w_2156, w_2157⟩
theorem w_1319 : Cond.methodLink "TapeStudioLaw" 153 ⟨"TapeStudio","deep","(I)I"⟩ ∈ m_big := m_big_mem (i := 1319) (by decide +kernel) (by decide +kernel)
theorem w_1322 : Cond.code ⟨"TapeStudio","deep","(I)I"⟩ prog_1_method_36_code 3 (Option.some .int) ∈ m_big := m_big_mem (i := 1322) (by decide +kernel) (by decide +kernel)
theorem w_1320 : Cond.instanceMethod ⟨"TapeStudio","deep","(I)I"⟩ ∈ m_big := m_big_mem (i := 1320) (by decide +kernel) (by decide +kernel)
theorem w_1321 : Cond.selects "TapeStudio" ⟨"TapeStudio","deep","(I)I"⟩ ⟨"TapeStudio","deep","(I)I"⟩ ∈ m_big := m_big_mem (i := 1321) (by decide +kernel) (by decide +kernel)
theorem lm_L_153 : m_MV RL 153 yX10_deep cX10_deep 3 (some .int) 1 := ⟨⟨Or.inl w_1319, w_126, w_1322, by decide +kernel, by decide⟩, w_1320, w_1321⟩
theorem w_2159 : Cond.methodLink "TapeStudioLaw" 156 ⟨"TapeStudioModel","deep","(I)I"⟩ ∈ m_big := m_big_mem (i := 2159) (by decide +kernel) (by decide +kernel)
theorem w_2162 : Cond.code ⟨"TapeStudioModel","deep","(I)I"⟩ prog_13_method_97_code 7 (Option.some .int) ∈ m_big := m_big_mem (i := 2162) (by decide +kernel) (by decide +kernel)
theorem w_2160 : Cond.instanceMethod ⟨"TapeStudioModel","deep","(I)I"⟩ ∈ m_big := m_big_mem (i := 2160) (by decide +kernel) (by decide +kernel)
theorem w_2161 : Cond.selects "TapeStudioModel" ⟨"TapeStudioModel","deep","(I)I"⟩ ⟨"TapeStudioModel","deep","(I)I"⟩ ∈ m_big := m_big_mem (i := 2161) (by decide +kernel) (by decide +kernel)
theorem lm_L_156 : m_MV RL 156 yX11_deep cX11_deep 7 (some .int) 1 := ⟨⟨Or.inl w_2159, w_135, w_2162, by decide +kernel, by decide⟩, w_2160, w_2161⟩
theorem w_1333 : Cond.methodLink "TapeStudioLaw" 157 ⟨"TapeStudio","tape","(I)I"⟩ ∈ m_big := m_big_mem (i := 1333) (by decide +kernel) (by decide +kernel)
theorem w_1336 : Cond.code ⟨"TapeStudio","tape","(I)I"⟩ prog_1_method_37_code 3 (Option.some .int) ∈ m_big := m_big_mem (i := 1336) (by decide +kernel) (by decide +kernel)
theorem w_1334 : Cond.instanceMethod ⟨"TapeStudio","tape","(I)I"⟩ ∈ m_big := m_big_mem (i := 1334) (by decide +kernel) (by decide +kernel)
theorem w_1335 : Cond.selects "TapeStudio" ⟨"TapeStudio","tape","(I)I"⟩ ⟨"TapeStudio","tape","(I)I"⟩ ∈ m_big := m_big_mem (i := 1335) (by decide +kernel) (by decide +kernel)
theorem lm_L_157 : m_MV RL 157 yX10_tape cX10_tape 3 (some .int) 1 := ⟨⟨Or.inl w_1333, w_126, w_1336, by decide +kernel, by decide⟩, w_1334, w_1335⟩
theorem w_2163 : Cond.methodLink "TapeStudioLaw" 160 ⟨"TapeStudioModel","tape","(I)I"⟩ ∈ m_big := m_big_mem (i := 2163) (by decide +kernel) (by decide +kernel)
theorem w_2166 : Cond.code ⟨"TapeStudioModel","tape","(I)I"⟩ prog_13_method_98_code 3 (Option.some .int) ∈ m_big := m_big_mem (i := 2166) (by decide +kernel) (by decide +kernel)
theorem w_2164 : Cond.instanceMethod ⟨"TapeStudioModel","tape","(I)I"⟩ ∈ m_big := m_big_mem (i := 2164) (by decide +kernel) (by decide +kernel)
theorem w_2165 : Cond.selects "TapeStudioModel" ⟨"TapeStudioModel","tape","(I)I"⟩ ⟨"TapeStudioModel","tape","(I)I"⟩ ∈ m_big := m_big_mem (i := 2165) (by decide +kernel) (by decide +kernel)
theorem lm_L_160 : m_MV RL 160 yX11_tape cX11_tape 3 (some .int) 1 := ⟨⟨Or.inl w_2163, w_135, w_2166, by decide +kernel, by decide⟩, w_2164, w_2165⟩
theorem w_1341 : Cond.methodLink "TapeStudioLaw" 161 ⟨"TapeStudio","wipe","()I"⟩ ∈ m_big := m_big_mem (i := 1341) (by decide +kernel) (by decide +kernel)
theorem w_1344 : Cond.code ⟨"TapeStudio","wipe","()I"⟩ prog_1_method_38_code 1 (Option.some .int) ∈ m_big := m_big_mem (i := 1344) (by decide +kernel) (by decide +kernel)
theorem w_1342 : Cond.instanceMethod ⟨"TapeStudio","wipe","()I"⟩ ∈ m_big := m_big_mem (i := 1342) (by decide +kernel) (by decide +kernel)
theorem w_1343 : Cond.selects "TapeStudio" ⟨"TapeStudio","wipe","()I"⟩ ⟨"TapeStudio","wipe","()I"⟩ ∈ m_big := m_big_mem (i := 1343) (by decide +kernel) (by decide +kernel)
theorem lm_L_161 : m_MV RL 161 yX10_wipe cX10_wipe 1 (some .int) 0 := ⟨⟨Or.inl w_1341, w_126, w_1344, by decide +kernel, by decide⟩, w_1342, w_1343⟩
theorem w_2167 : Cond.methodLink "TapeStudioLaw" 164 ⟨"TapeStudioModel","wipe","()I"⟩ ∈ m_big := m_big_mem (i := 2167) (by decide +kernel) (by decide +kernel)
theorem w_2170 : Cond.code ⟨"TapeStudioModel","wipe","()I"⟩ prog_13_method_99_code 2 (Option.some .int) ∈ m_big := m_big_mem (i := 2170) (by decide +kernel) (by decide +kernel)
theorem w_2168 : Cond.instanceMethod ⟨"TapeStudioModel","wipe","()I"⟩ ∈ m_big := m_big_mem (i := 2168) (by decide +kernel) (by decide +kernel)
theorem w_2169 : Cond.selects "TapeStudioModel" ⟨"TapeStudioModel","wipe","()I"⟩ ⟨"TapeStudioModel","wipe","()I"⟩ ∈ m_big := m_big_mem (i := 2169) (by decide +kernel) (by decide +kernel)
theorem lm_L_164 : m_MV RL 164 yX11_wipe cX11_wipe 2 (some .int) 0 := ⟨⟨Or.inl w_2167, w_135, w_2170, by decide +kernel, by decide⟩, w_2168, w_2169⟩
theorem w_1345 : Cond.methodLink "TapeStudioLaw" 165 ⟨"TapeStudio","near","(IIII)I"⟩ ∈ m_big := m_big_mem (i := 1345) (by decide +kernel) (by decide +kernel)
theorem w_1348 : Cond.code ⟨"TapeStudio","near","(IIII)I"⟩ prog_1_method_39_code 5 (Option.some .int) ∈ m_big := m_big_mem (i := 1348) (by decide +kernel) (by decide +kernel)
theorem w_1346 : Cond.instanceMethod ⟨"TapeStudio","near","(IIII)I"⟩ ∈ m_big := m_big_mem (i := 1346) (by decide +kernel) (by decide +kernel)
theorem w_1347 : Cond.selects "TapeStudio" ⟨"TapeStudio","near","(IIII)I"⟩ ⟨"TapeStudio","near","(IIII)I"⟩ ∈ m_big := m_big_mem (i := 1347) (by decide +kernel) (by decide +kernel)
theorem lm_L_165 : m_MV RL 165 yX10_near cX10_near 5 (some .int) 4 := ⟨⟨Or.inl w_1345, w_126, w_1348, by decide +kernel, by decide⟩, w_1346, w_1347⟩
theorem w_2171 : Cond.methodLink "TapeStudioLaw" 168 ⟨"TapeStudioModel","near","(IIII)I"⟩ ∈ m_big := m_big_mem (i := 2171) (by decide +kernel) (by decide +kernel)
theorem w_2174 : Cond.code ⟨"TapeStudioModel","near","(IIII)I"⟩ prog_13_method_106_code 5 (Option.some .int) ∈ m_big := m_big_mem (i := 2174) (by decide +kernel) (by decide +kernel)
theorem w_2172 : Cond.instanceMethod ⟨"TapeStudioModel","near","(IIII)I"⟩ ∈ m_big := m_big_mem (i := 2172) (by decide +kernel) (by decide +kernel)
theorem w_2173 : Cond.selects "TapeStudioModel" ⟨"TapeStudioModel","near","(IIII)I"⟩ ⟨"TapeStudioModel","near","(IIII)I"⟩ ∈ m_big := m_big_mem (i := 2173) (by decide +kernel) (by decide +kernel)
theorem lm_L_168 : m_MV RL 168 yX11_near cX11_near 5 (some .int) 4 := ⟨⟨Or.inl w_2171, w_135, w_2174, by decide +kernel, by decide⟩, w_2172, w_2173⟩
theorem w_1384 : Cond.methodLink "TapeStudioLaw" 169 ⟨"TapeStudio","rivals","(III)I"⟩ ∈ m_big := m_big_mem (i := 1384) (by decide +kernel) (by decide +kernel)
theorem w_1387 : Cond.code ⟨"TapeStudio","rivals","(III)I"⟩ prog_1_method_40_code 4 (Option.some .int) ∈ m_big := m_big_mem (i := 1387) (by decide +kernel) (by decide +kernel)
theorem w_1385 : Cond.instanceMethod ⟨"TapeStudio","rivals","(III)I"⟩ ∈ m_big := m_big_mem (i := 1385) (by decide +kernel) (by decide +kernel)
theorem w_1386 : Cond.selects "TapeStudio" ⟨"TapeStudio","rivals","(III)I"⟩ ⟨"TapeStudio","rivals","(III)I"⟩ ∈ m_big := m_big_mem (i := 1386) (by decide +kernel) (by decide +kernel)
theorem lm_L_169 : m_MV RL 169 yX10_rivals cX10_rivals 4 (some .int) 3 := ⟨⟨Or.inl w_1384, w_126, w_1387, by decide +kernel, by decide⟩, w_1385, w_1386⟩
theorem w_2199 : Cond.methodLink "TapeStudioLaw" 172 ⟨"TapeStudioModel","rivals","(III)I"⟩ ∈ m_big := m_big_mem (i := 2199) (by decide +kernel) (by decide +kernel)
theorem w_2202 : Cond.code ⟨"TapeStudioModel","rivals","(III)I"⟩ prog_13_method_107_code 4 (Option.some .int) ∈ m_big := m_big_mem (i := 2202) (by decide +kernel) (by decide +kernel)
theorem w_2200 : Cond.instanceMethod ⟨"TapeStudioModel","rivals","(III)I"⟩ ∈ m_big := m_big_mem (i := 2200) (by decide +kernel) (by decide +kernel)
theorem w_2201 : Cond.selects "TapeStudioModel" ⟨"TapeStudioModel","rivals","(III)I"⟩ ⟨"TapeStudioModel","rivals","(III)I"⟩ ∈ m_big := m_big_mem (i := 2201) (by decide +kernel) (by decide +kernel)
theorem lm_L_172 : m_MV RL 172 yX11_rivals cX11_rivals 4 (some .int) 3 := ⟨⟨Or.inl w_2199, w_135, w_2202, by decide +kernel, by decide⟩, w_2200, w_2201⟩
theorem w_1388 : Cond.methodLink "TapeStudioLaw" 173 ⟨"TapeStudio","remade","(II)I"⟩ ∈ m_big := m_big_mem (i := 1388) (by decide +kernel) (by decide +kernel)
theorem w_1391 : Cond.code ⟨"TapeStudio","remade","(II)I"⟩ prog_1_method_41_code 3 (Option.some .int) ∈ m_big := m_big_mem (i := 1391) (by decide +kernel) (by decide +kernel)
theorem w_1389 : Cond.instanceMethod ⟨"TapeStudio","remade","(II)I"⟩ ∈ m_big := m_big_mem (i := 1389) (by decide +kernel) (by decide +kernel)
theorem w_1390 : Cond.selects "TapeStudio" ⟨"TapeStudio","remade","(II)I"⟩ ⟨"TapeStudio","remade","(II)I"⟩ ∈ m_big := m_big_mem (i := 1390) (by decide +kernel) (by decide +kernel)
theorem lm_L_173 : m_MV RL 173 yX10_remade cX10_remade 3 (some .int) 2 := ⟨⟨Or.inl w_1388, w_126, w_1391, by decide +kernel, by decide⟩, w_1389, w_1390⟩
theorem w_2203 : Cond.methodLink "TapeStudioLaw" 176 ⟨"TapeStudioModel","remade","(II)I"⟩ ∈ m_big := m_big_mem (i := 2203) (by decide +kernel) (by decide +kernel)
theorem w_2206 : Cond.code ⟨"TapeStudioModel","remade","(II)I"⟩ prog_13_method_111_code 3 (Option.some .int) ∈ m_big := m_big_mem (i := 2206) (by decide +kernel) (by decide +kernel)
theorem w_2204 : Cond.instanceMethod ⟨"TapeStudioModel","remade","(II)I"⟩ ∈ m_big := m_big_mem (i := 2204) (by decide +kernel) (by decide +kernel)
theorem w_2205 : Cond.selects "TapeStudioModel" ⟨"TapeStudioModel","remade","(II)I"⟩ ⟨"TapeStudioModel","remade","(II)I"⟩ ∈ m_big := m_big_mem (i := 2205) (by decide +kernel) (by decide +kernel)
theorem lm_L_176 : m_MV RL 176 yX11_remade cX11_remade 3 (some .int) 2 := ⟨⟨Or.inl w_2203, w_135, w_2206, by decide +kernel, by decide⟩, w_2204, w_2205⟩
theorem w_1421 : Cond.methodLink "TapeStudioLaw" 177 ⟨"TapeStudio","stretch","(III)I"⟩ ∈ m_big := m_big_mem (i := 1421) (by decide +kernel) (by decide +kernel)
theorem w_1424 : Cond.code ⟨"TapeStudio","stretch","(III)I"⟩ prog_1_method_42_code 4 (Option.some .int) ∈ m_big := m_big_mem (i := 1424) (by decide +kernel) (by decide +kernel)
theorem w_1422 : Cond.instanceMethod ⟨"TapeStudio","stretch","(III)I"⟩ ∈ m_big := m_big_mem (i := 1422) (by decide +kernel) (by decide +kernel)
theorem w_1423 : Cond.selects "TapeStudio" ⟨"TapeStudio","stretch","(III)I"⟩ ⟨"TapeStudio","stretch","(III)I"⟩ ∈ m_big := m_big_mem (i := 1423) (by decide +kernel) (by decide +kernel)
theorem lm_L_177 : m_MV RL 177 yX10_stretch cX10_stretch 4 (some .int) 3 := ⟨⟨Or.inl w_1421, w_126, w_1424, by decide +kernel, by decide⟩, w_1422, w_1423⟩
theorem w_2219 : Cond.methodLink "TapeStudioLaw" 180 ⟨"TapeStudioModel","stretch","(III)I"⟩ ∈ m_big := m_big_mem (i := 2219) (by decide +kernel) (by decide +kernel)
theorem w_2222 : Cond.code ⟨"TapeStudioModel","stretch","(III)I"⟩ prog_13_method_112_code 7 (Option.some .int) ∈ m_big := m_big_mem (i := 2222) (by decide +kernel) (by decide +kernel)
theorem w_2220 : Cond.instanceMethod ⟨"TapeStudioModel","stretch","(III)I"⟩ ∈ m_big := m_big_mem (i := 2220) (by decide +kernel) (by decide +kernel)
theorem w_2221 : Cond.selects "TapeStudioModel" ⟨"TapeStudioModel","stretch","(III)I"⟩ ⟨"TapeStudioModel","stretch","(III)I"⟩ ∈ m_big := m_big_mem (i := 2221) (by decide +kernel) (by decide +kernel)
theorem lm_L_180 : m_MV RL 180 yX11_stretch cX11_stretch 7 (some .int) 3 := ⟨⟨Or.inl w_2219, w_135, w_2222, by decide +kernel, by decide⟩, w_2220, w_2221⟩
theorem w_1434 : Cond.methodLink "TapeStudioLaw" 181 ⟨"TapeStudio","unfound","(II)I"⟩ ∈ m_big := m_big_mem (i := 1434) (by decide +kernel) (by decide +kernel)
theorem w_1437 : Cond.code ⟨"TapeStudio","unfound","(II)I"⟩ prog_1_method_43_code 3 (Option.some .int) ∈ m_big := m_big_mem (i := 1437) (by decide +kernel) (by decide +kernel)
theorem w_1435 : Cond.instanceMethod ⟨"TapeStudio","unfound","(II)I"⟩ ∈ m_big := m_big_mem (i := 1435) (by decide +kernel) (by decide +kernel)
theorem w_1436 : Cond.selects "TapeStudio" ⟨"TapeStudio","unfound","(II)I"⟩ ⟨"TapeStudio","unfound","(II)I"⟩ ∈ m_big := m_big_mem (i := 1436) (by decide +kernel) (by decide +kernel)
theorem lm_L_181 : m_MV RL 181 yX10_unfound cX10_unfound 3 (some .int) 2 := ⟨⟨Or.inl w_1434, w_126, w_1437, by decide +kernel, by decide⟩, w_1435, w_1436⟩
theorem w_2223 : Cond.methodLink "TapeStudioLaw" 184 ⟨"TapeStudioModel","unfound","(II)I"⟩ ∈ m_big := m_big_mem (i := 2223) (by decide +kernel) (by decide +kernel)
theorem w_2226 : Cond.code ⟨"TapeStudioModel","unfound","(II)I"⟩ prog_13_method_113_code 5 (Option.some .int) ∈ m_big := m_big_mem (i := 2226) (by decide +kernel) (by decide +kernel)
theorem w_2224 : Cond.instanceMethod ⟨"TapeStudioModel","unfound","(II)I"⟩ ∈ m_big := m_big_mem (i := 2224) (by decide +kernel) (by decide +kernel)
theorem w_2225 : Cond.selects "TapeStudioModel" ⟨"TapeStudioModel","unfound","(II)I"⟩ ⟨"TapeStudioModel","unfound","(II)I"⟩ ∈ m_big := m_big_mem (i := 2225) (by decide +kernel) (by decide +kernel)
theorem lm_L_184 : m_MV RL 184 yX11_unfound cX11_unfound 5 (some .int) 2 := ⟨⟨Or.inl w_2223, w_135, w_2226, by decide +kernel, by decide⟩, w_2224, w_2225⟩
theorem w_1442 : Cond.methodLink "TapeStudioLaw" 185 ⟨"TapeStudio","count","(I)I"⟩ ∈ m_big := m_big_mem (i := 1442) (by decide +kernel) (by decide +kernel)
theorem w_1445 : Cond.code ⟨"TapeStudio","count","(I)I"⟩ prog_1_method_44_code 3 (Option.some .int) ∈ m_big := m_big_mem (i := 1445) (by decide +kernel) (by decide +kernel)
theorem w_1443 : Cond.instanceMethod ⟨"TapeStudio","count","(I)I"⟩ ∈ m_big := m_big_mem (i := 1443) (by decide +kernel) (by decide +kernel)
theorem w_1444 : Cond.selects "TapeStudio" ⟨"TapeStudio","count","(I)I"⟩ ⟨"TapeStudio","count","(I)I"⟩ ∈ m_big := m_big_mem (i := 1444) (by decide +kernel) (by decide +kernel)
theorem lm_L_185 : m_MV RL 185 yX10_count cX10_count 3 (some .int) 1 := ⟨⟨Or.inl w_1442, w_126, w_1445, by decide +kernel, by decide⟩, w_1443, w_1444⟩
theorem w_2227 : Cond.methodLink "TapeStudioLaw" 188 ⟨"TapeStudioModel","count","(I)I"⟩ ∈ m_big := m_big_mem (i := 2227) (by decide +kernel) (by decide +kernel)
theorem w_2230 : Cond.code ⟨"TapeStudioModel","count","(I)I"⟩ prog_13_method_114_code 4 (Option.some .int) ∈ m_big := m_big_mem (i := 2230) (by decide +kernel) (by decide +kernel)
theorem w_2228 : Cond.instanceMethod ⟨"TapeStudioModel","count","(I)I"⟩ ∈ m_big := m_big_mem (i := 2228) (by decide +kernel) (by decide +kernel)
theorem w_2229 : Cond.selects "TapeStudioModel" ⟨"TapeStudioModel","count","(I)I"⟩ ⟨"TapeStudioModel","count","(I)I"⟩ ∈ m_big := m_big_mem (i := 2229) (by decide +kernel) (by decide +kernel)
theorem lm_L_188 : m_MV RL 188 yX11_count cX11_count 4 (some .int) 1 := ⟨⟨Or.inl w_2227, w_135, w_2230, by decide +kernel, by decide⟩, w_2228, w_2229⟩
theorem w_145 : Cond.classLink "TapeStudioLaw" 7 "TapeStudio" ∈ m_big := m_big_mem (i := 145) (by decide +kernel) (by decide +kernel)
theorem w_146 : Cond.instantiable "TapeStudio" 10 ∈ m_big := m_big_mem (i := 146) (by decide +kernel) (by decide +kernel)
theorem ln_L_7 : m_NL RL 7 10 := ⟨RX10, TX10, 10, tyX10, rfl, rfl, by decide, uw_10, w_145, w_146, w_126, tyX10_ok, by decide +kernel⟩
theorem w_147 : Cond.methodLink "TapeStudioLaw" 9 ⟨"TapeStudio","<init>","()V"⟩ ∈ m_big := m_big_mem (i := 147) (by decide +kernel) (by decide +kernel)
theorem w_149 : Cond.code ⟨"TapeStudio","<init>","()V"⟩ prog_1_method_1_code 1 (Option.none : Option Jvm.ClassFile.FieldType) ∈ m_big := m_big_mem (i := 149) (by decide +kernel) (by decide +kernel)
theorem w_148 : Cond.instanceMethod ⟨"TapeStudio","<init>","()V"⟩ ∈ m_big := m_big_mem (i := 148) (by decide +kernel) (by decide +kernel)
theorem lm_L_9 : m_MI RL 9 yX10_init cX10_init 1 0 := ⟨⟨Or.inl w_147, w_126, w_149, by decide +kernel, by decide⟩, w_148, rfl⟩
theorem w_1450 : Cond.classLink "TapeStudioLaw" 10 "TapeStudioModel" ∈ m_big := m_big_mem (i := 1450) (by decide +kernel) (by decide +kernel)
theorem w_1451 : Cond.instantiable "TapeStudioModel" 92 ∈ m_big := m_big_mem (i := 1451) (by decide +kernel) (by decide +kernel)
theorem ln_L_10 : m_NL RL 10 11 := ⟨RX11, TX11, 92, tyX11, rfl, rfl, by decide, uw_11, w_1450, w_1451, w_135, tyX11_ok, by decide +kernel⟩
theorem w_1452 : Cond.methodLink "TapeStudioLaw" 12 ⟨"TapeStudioModel","<init>","()V"⟩ ∈ m_big := m_big_mem (i := 1452) (by decide +kernel) (by decide +kernel)
set_option maxRecDepth 1000000 in
theorem w_1454 : Cond.code ⟨"TapeStudioModel","<init>","()V"⟩ prog_13_method_3_code 1 (Option.none : Option Jvm.ClassFile.FieldType) ∈ m_big := m_big_mem (i := 1454) rfl (by decide +kernel)
theorem w_1453 : Cond.instanceMethod ⟨"TapeStudioModel","<init>","()V"⟩ ∈ m_big := m_big_mem (i := 1453) (by decide +kernel) (by decide +kernel)
theorem lm_L_12 : m_MI RL 12 yX11_init cX11_init 1 0 := ⟨⟨Or.inl w_1452, w_135, w_1454, by decide +kernel, by decide⟩, w_1453, rfl⟩
