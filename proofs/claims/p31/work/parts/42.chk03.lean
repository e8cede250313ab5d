set_option maxRecDepth 100000 in
theorem ne_135 : nm_135.2.2.2.2.2.all (nj_oke nj_M nm_135.1.cls nm_135.2.1) = true := by decide +kernel
set_option maxRecDepth 100000 in
theorem nc_135 : nj_okM nj_M nm_135 := ⟨by decide +kernel, nj_w_mem (pos := 1076) (by decide +kernel), ⟨by decide +kernel, by decide +kernel⟩, nj_w_mem (pos := 110) (by decide +kernel), by decide +kernel, fun q hq => List.all_eq_true.mp ne_135 q hq⟩
set_option maxRecDepth 100000 in
theorem ne_136 : nm_136.2.2.2.2.2.all (nj_oke nj_M nm_136.1.cls nm_136.2.1) = true := by decide +kernel
set_option maxRecDepth 100000 in
theorem nc_136 : nj_okM nj_M nm_136 := ⟨by decide +kernel, nj_w_mem (pos := 1080) (by decide +kernel), ⟨by decide +kernel, by decide +kernel⟩, nj_w_mem (pos := 110) (by decide +kernel), by decide +kernel, fun q hq => List.all_eq_true.mp ne_136 q hq⟩
set_option maxRecDepth 100000 in
theorem ne_137 : nm_137.2.2.2.2.2.all (nj_oke nj_M nm_137.1.cls nm_137.2.1) = true := by decide +kernel
set_option maxRecDepth 100000 in
theorem nc_137 : nj_okM nj_M nm_137 := ⟨by decide +kernel, nj_w_mem (pos := 1084) (by decide +kernel), ⟨by decide +kernel, by decide +kernel⟩, nj_w_mem (pos := 118) (by decide +kernel), by decide +kernel, fun q hq => List.all_eq_true.mp ne_137 q hq⟩
set_option maxRecDepth 100000 in
theorem ne_138 : nm_138.2.2.2.2.2.all (nj_oke nj_M nm_138.1.cls nm_138.2.1) = true := by decide +kernel
set_option maxRecDepth 100000 in
theorem nc_138 : nj_okM nj_M nm_138 := ⟨by decide +kernel, nj_w_mem (pos := 1090) (by decide +kernel), ⟨by decide +kernel, by decide +kernel⟩, nj_w_mem (pos := 118) (by decide +kernel), by decide +kernel, fun q hq => List.all_eq_true.mp ne_138 q hq⟩
set_option maxRecDepth 100000 in
theorem ne_139 : nm_139.2.2.2.2.2.all (nj_oke nj_M nm_139.1.cls nm_139.2.1) = true := by decide +kernel
set_option maxRecDepth 100000 in
theorem nc_139 : nj_okM nj_M nm_139 := ⟨by decide +kernel, nj_w_mem (pos := 1094) (by decide +kernel), ⟨by decide +kernel, by decide +kernel⟩, nj_w_mem (pos := 118) (by decide +kernel), by decide +kernel, fun q hq => List.all_eq_true.mp ne_139 q hq⟩
set_option maxRecDepth 100000 in
theorem ne_140 : nm_140.2.2.2.2.2.all (nj_oke nj_M nm_140.1.cls nm_140.2.1) = true := by decide +kernel
set_option maxRecDepth 100000 in
theorem nc_140 : nj_okM nj_M nm_140 := ⟨by decide +kernel, nj_w_mem (pos := 1098) (by decide +kernel), ⟨by decide +kernel, by decide +kernel⟩, nj_w_mem (pos := 118) (by decide +kernel), by decide +kernel, fun q hq => List.all_eq_true.mp ne_140 q hq⟩
set_option maxRecDepth 100000 in
theorem ne_141 : nm_141.2.2.2.2.2.all (nj_oke nj_M nm_141.1.cls nm_141.2.1) = true := by decide +kernel
set_option maxRecDepth 100000 in
theorem nc_141 : nj_okM nj_M nm_141 := ⟨by decide +kernel, nj_w_mem (pos := 1106) (by decide +kernel), ⟨by decide +kernel, by decide +kernel⟩, nj_w_mem (pos := 118) (by decide +kernel), by decide +kernel, fun q hq => List.all_eq_true.mp ne_141 q hq⟩
set_option maxRecDepth 100000 in
theorem ne_142 : nm_142.2.2.2.2.2.all (nj_oke nj_M nm_142.1.cls nm_142.2.1) = true := by decide +kernel
set_option maxRecDepth 100000 in
theorem nc_142 : nj_okM nj_M nm_142 := ⟨by decide +kernel, nj_w_mem (pos := 1110) (by decide +kernel), ⟨by decide +kernel, by decide +kernel⟩, nj_w_mem (pos := 118) (by decide +kernel), by decide +kernel, fun q hq => List.all_eq_true.mp ne_142 q hq⟩
set_option maxRecDepth 100000 in
theorem ne_143 : nm_143.2.2.2.2.2.all (nj_oke nj_M nm_143.1.cls nm_143.2.1) = true := by decide +kernel
set_option maxRecDepth 100000 in
theorem nc_143 : nj_okM nj_M nm_143 := ⟨by decide +kernel, nj_w_mem (pos := 1115) (by decide +kernel), ⟨by decide +kernel, by decide +kernel⟩, nj_w_mem (pos := 118) (by decide +kernel), by decide +kernel, fun q hq => List.all_eq_true.mp ne_143 q hq⟩
set_option maxRecDepth 100000 in
theorem ne_144 : nm_144.2.2.2.2.2.all (nj_oke nj_M nm_144.1.cls nm_144.2.1) = true := by decide +kernel
set_option maxRecDepth 100000 in
theorem nc_144 : nj_okM nj_M nm_144 := ⟨by decide +kernel, nj_w_mem (pos := 1121) (by decide +kernel), ⟨by decide +kernel, by decide +kernel⟩, nj_w_mem (pos := 118) (by decide +kernel), by decide +kernel, fun q hq => List.all_eq_true.mp ne_144 q hq⟩
set_option maxRecDepth 100000 in
theorem ne_145 : nm_145.2.2.2.2.2.all (nj_oke nj_M nm_145.1.cls nm_145.2.1) = true := by decide +kernel
set_option maxRecDepth 100000 in
theorem nc_145 : nj_okM nj_M nm_145 := ⟨by decide +kernel, nj_w_mem (pos := 1126) (by decide +kernel), ⟨by decide +kernel, by decide +kernel⟩, nj_w_mem (pos := 110) (by decide +kernel), by decide +kernel, fun q hq => List.all_eq_true.mp ne_145 q hq⟩
set_option maxRecDepth 100000 in
theorem ne_146 : nm_146.2.2.2.2.2.all (nj_oke nj_M nm_146.1.cls nm_146.2.1) = true := by decide +kernel
set_option maxRecDepth 100000 in
theorem nc_146 : nj_okM nj_M nm_146 := ⟨by decide +kernel, nj_w_mem (pos := 1130) (by decide +kernel), ⟨by decide +kernel, by decide +kernel⟩, nj_w_mem (pos := 118) (by decide +kernel), by decide +kernel, fun q hq => List.all_eq_true.mp ne_146 q hq⟩
set_option maxRecDepth 100000 in
theorem ne_147 : nm_147.2.2.2.2.2.all (nj_oke nj_M nm_147.1.cls nm_147.2.1) = true := by decide +kernel
set_option maxRecDepth 100000 in
theorem nc_147 : nj_okM nj_M nm_147 := ⟨by decide +kernel, nj_w_mem (pos := 1134) (by decide +kernel), ⟨by decide +kernel, by decide +kernel⟩, nj_w_mem (pos := 118) (by decide +kernel), by decide +kernel, fun q hq => List.all_eq_true.mp ne_147 q hq⟩
set_option maxRecDepth 100000 in
theorem ne_148 : nm_148.2.2.2.2.2.all (nj_oke nj_M nm_148.1.cls nm_148.2.1) = true := by decide +kernel
set_option maxRecDepth 100000 in
theorem nc_148 : nj_okM nj_M nm_148 := ⟨by decide +kernel, nj_w_mem (pos := 1139) (by decide +kernel), ⟨by decide +kernel, by decide +kernel⟩, nj_w_mem (pos := 118) (by decide +kernel), by decide +kernel, fun q hq => List.all_eq_true.mp ne_148 q hq⟩
set_option maxRecDepth 100000 in
theorem ne_149 : nm_149.2.2.2.2.2.all (nj_oke nj_M nm_149.1.cls nm_149.2.1) = true := by decide +kernel
set_option maxRecDepth 100000 in
theorem nc_149 : nj_okM nj_M nm_149 := ⟨by decide +kernel, nj_w_mem (pos := 1144) (by decide +kernel), ⟨by decide +kernel, by decide +kernel⟩, nj_w_mem (pos := 131) (by decide +kernel), by decide +kernel, fun q hq => List.all_eq_true.mp ne_149 q hq⟩
set_option maxRecDepth 100000 in
theorem ne_150 : nm_150.2.2.2.2.2.all (nj_oke nj_M nm_150.1.cls nm_150.2.1) = true := by decide +kernel
set_option maxRecDepth 100000 in
theorem nc_150 : nj_okM nj_M nm_150 := ⟨by decide +kernel, nj_w_mem (pos := 1151) (by decide +kernel), ⟨by decide +kernel, by decide +kernel⟩, nj_w_mem (pos := 118) (by decide +kernel), by decide +kernel, fun q hq => List.all_eq_true.mp ne_150 q hq⟩
set_option maxRecDepth 100000 in
theorem ne_151 : nm_151.2.2.2.2.2.all (nj_oke nj_M nm_151.1.cls nm_151.2.1) = true := by decide +kernel
set_option maxRecDepth 100000 in
theorem nc_151 : nj_okM nj_M nm_151 := ⟨by decide +kernel, nj_w_mem (pos := 1156) (by decide +kernel), ⟨by decide +kernel, by decide +kernel⟩, nj_w_mem (pos := 110) (by decide +kernel), by decide +kernel, fun q hq => List.all_eq_true.mp ne_151 q hq⟩
set_option maxRecDepth 100000 in
theorem ne_152 : nm_152.2.2.2.2.2.all (nj_oke nj_M nm_152.1.cls nm_152.2.1) = true := by decide +kernel
set_option maxRecDepth 100000 in
theorem nc_152 : nj_okM nj_M nm_152 := ⟨by decide +kernel, nj_w_mem (pos := 1160) (by decide +kernel), ⟨by decide +kernel, by decide +kernel⟩, nj_w_mem (pos := 110) (by decide +kernel), by decide +kernel, fun q hq => List.all_eq_true.mp ne_152 q hq⟩
set_option maxRecDepth 100000 in
theorem ne_153 : nm_153.2.2.2.2.2.all (nj_oke nj_M nm_153.1.cls nm_153.2.1) = true := by decide +kernel
set_option maxRecDepth 100000 in
theorem nc_153 : nj_okM nj_M nm_153 := ⟨by decide +kernel, nj_w_mem (pos := 1164) (by decide +kernel), ⟨by decide +kernel, by decide +kernel⟩, nj_w_mem (pos := 110) (by decide +kernel), by decide +kernel, fun q hq => List.all_eq_true.mp ne_153 q hq⟩
set_option maxRecDepth 100000 in
theorem ne_154 : nm_154.2.2.2.2.2.all (nj_oke nj_M nm_154.1.cls nm_154.2.1) = true := by decide +kernel
set_option maxRecDepth 100000 in
theorem nc_154 : nj_okM nj_M nm_154 := ⟨by decide +kernel, nj_w_mem (pos := 1172) (by decide +kernel), ⟨by decide +kernel, by decide +kernel⟩, nj_w_mem (pos := 110) (by decide +kernel), by decide +kernel, fun q hq => List.all_eq_true.mp ne_154 q hq⟩
set_option maxRecDepth 100000 in
theorem ne_155 : nm_155.2.2.2.2.2.all (nj_oke nj_M nm_155.1.cls nm_155.2.1) = true := by decide +kernel
set_option maxRecDepth 100000 in
theorem nc_155 : nj_okM nj_M nm_155 := ⟨by decide +kernel, nj_w_mem (pos := 1241) (by decide +kernel), ⟨by decide +kernel, by decide +kernel⟩, nj_w_mem (pos := 110) (by decide +kernel), by decide +kernel, fun q hq => List.all_eq_true.mp ne_155 q hq⟩
set_option maxRecDepth 100000 in
theorem ne_156 : nm_156.2.2.2.2.2.all (nj_oke nj_M nm_156.1.cls nm_156.2.1) = true := by decide +kernel
set_option maxRecDepth 100000 in
theorem nc_156 : nj_okM nj_M nm_156 := ⟨by decide +kernel, nj_w_mem (pos := 1245) (by decide +kernel), ⟨by decide +kernel, by decide +kernel⟩, nj_w_mem (pos := 124) (by decide +kernel), by decide +kernel, fun q hq => List.all_eq_true.mp ne_156 q hq⟩
set_option maxRecDepth 100000 in
theorem ne_157 : nm_157.2.2.2.2.2.all (nj_oke nj_M nm_157.1.cls nm_157.2.1) = true := by decide +kernel
set_option maxRecDepth 100000 in
theorem nc_157 : nj_okM nj_M nm_157 := ⟨by decide +kernel, nj_w_mem (pos := 1250) (by decide +kernel), ⟨by decide +kernel, by decide +kernel⟩, nj_w_mem (pos := 124) (by decide +kernel), by decide +kernel, fun q hq => List.all_eq_true.mp ne_157 q hq⟩
set_option maxRecDepth 100000 in
theorem ne_158 : nm_158.2.2.2.2.2.all (nj_oke nj_M nm_158.1.cls nm_158.2.1) = true := by decide +kernel
set_option maxRecDepth 100000 in
theorem nc_158 : nj_okM nj_M nm_158 := ⟨by decide +kernel, nj_w_mem (pos := 1254) (by decide +kernel), ⟨by decide +kernel, by decide +kernel⟩, nj_w_mem (pos := 124) (by decide +kernel), by decide +kernel, fun q hq => List.all_eq_true.mp ne_158 q hq⟩
set_option maxRecDepth 100000 in
theorem ne_159 : nm_159.2.2.2.2.2.all (nj_oke nj_M nm_159.1.cls nm_159.2.1) = true := by decide +kernel
set_option maxRecDepth 100000 in
theorem nc_159 : nj_okM nj_M nm_159 := ⟨by decide +kernel, nj_w_mem (pos := 1258) (by decide +kernel), ⟨by decide +kernel, by decide +kernel⟩, nj_w_mem (pos := 124) (by decide +kernel), by decide +kernel, fun q hq => List.all_eq_true.mp ne_159 q hq⟩
set_option maxRecDepth 100000 in
theorem ne_160 : nm_160.2.2.2.2.2.all (nj_oke nj_M nm_160.1.cls nm_160.2.1) = true := by decide +kernel
set_option maxRecDepth 100000 in
theorem nc_160 : nj_okM nj_M nm_160 := ⟨by decide +kernel, nj_w_mem (pos := 1285) (by decide +kernel), ⟨by decide +kernel, by decide +kernel⟩, nj_w_mem (pos := 124) (by decide +kernel), by decide +kernel, fun q hq => List.all_eq_true.mp ne_160 q hq⟩
set_option maxRecDepth 100000 in
theorem ne_161 : nm_161.2.2.2.2.2.all (nj_oke nj_M nm_161.1.cls nm_161.2.1) = true := by decide +kernel
set_option maxRecDepth 100000 in
theorem nc_161 : nj_okM nj_M nm_161 := ⟨by decide +kernel, nj_w_mem (pos := 1435) (by decide +kernel), ⟨by decide +kernel, by decide +kernel⟩, nj_w_mem (pos := 124) (by decide +kernel), by decide +kernel, fun q hq => List.all_eq_true.mp ne_161 q hq⟩
set_option maxRecDepth 100000 in
theorem ne_162 : nm_162.2.2.2.2.2.all (nj_oke nj_M nm_162.1.cls nm_162.2.1) = true := by decide +kernel
set_option maxRecDepth 100000 in
theorem nc_162 : nj_okM nj_M nm_162 := ⟨by decide +kernel, nj_w_mem (pos := 1439) (by decide +kernel), ⟨by decide +kernel, by decide +kernel⟩, nj_w_mem (pos := 124) (by decide +kernel), by decide +kernel, fun q hq => List.all_eq_true.mp ne_162 q hq⟩
set_option maxRecDepth 100000 in
theorem ne_163 : nm_163.2.2.2.2.2.all (nj_oke nj_M nm_163.1.cls nm_163.2.1) = true := by decide +kernel
set_option maxRecDepth 100000 in
theorem nc_163 : nj_okM nj_M nm_163 := ⟨by decide +kernel, nj_w_mem (pos := 1443) (by decide +kernel), ⟨by decide +kernel, by decide +kernel⟩, nj_w_mem (pos := 124) (by decide +kernel), by decide +kernel, fun q hq => List.all_eq_true.mp ne_163 q hq⟩
set_option maxRecDepth 100000 in
theorem ne_164 : nm_164.2.2.2.2.2.all (nj_oke nj_M nm_164.1.cls nm_164.2.1) = true := by decide +kernel
set_option maxRecDepth 100000 in
theorem nc_164 : nj_okM nj_M nm_164 := ⟨by decide +kernel, nj_w_mem (pos := 1447) (by decide +kernel), ⟨by decide +kernel, by decide +kernel⟩, nj_w_mem (pos := 124) (by decide +kernel), by decide +kernel, fun q hq => List.all_eq_true.mp ne_164 q hq⟩
set_option maxRecDepth 100000 in
theorem ne_165 : nm_165.2.2.2.2.2.all (nj_oke nj_M nm_165.1.cls nm_165.2.1) = true := by decide +kernel
set_option maxRecDepth 100000 in
theorem nc_165 : nj_okM nj_M nm_165 := ⟨by decide +kernel, nj_w_mem (pos := 1450) (by decide +kernel), ⟨by decide +kernel, by decide +kernel⟩, nj_w_mem (pos := 124) (by decide +kernel), by decide +kernel, fun q hq => List.all_eq_true.mp ne_165 q hq⟩
set_option maxRecDepth 100000 in
theorem ne_166 : nm_166.2.2.2.2.2.all (nj_oke nj_M nm_166.1.cls nm_166.2.1) = true := by decide +kernel
set_option maxRecDepth 100000 in
theorem nc_166 : nj_okM nj_M nm_166 := ⟨by decide +kernel, nj_w_mem (pos := 1453) (by decide +kernel), ⟨by decide +kernel, by decide +kernel⟩, nj_w_mem (pos := 124) (by decide +kernel), by decide +kernel, fun q hq => List.all_eq_true.mp ne_166 q hq⟩
set_option maxRecDepth 100000 in
theorem ne_167 : nm_167.2.2.2.2.2.all (nj_oke nj_M nm_167.1.cls nm_167.2.1) = true := by decide +kernel
set_option maxRecDepth 100000 in
theorem nc_167 : nj_okM nj_M nm_167 := ⟨by decide +kernel, nj_w_mem (pos := 1457) (by decide +kernel), ⟨by decide +kernel, by decide +kernel⟩, nj_w_mem (pos := 124) (by decide +kernel), by decide +kernel, fun q hq => List.all_eq_true.mp ne_167 q hq⟩
