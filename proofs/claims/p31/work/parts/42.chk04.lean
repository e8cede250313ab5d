set_option maxRecDepth 100000 in
theorem ne_168 : nm_168.2.2.2.2.2.all (nj_oke nj_M nm_168.1.cls nm_168.2.1) = true := by decide +kernel
set_option maxRecDepth 100000 in
theorem nc_168 : nj_okM nj_M nm_168 := ⟨by decide +kernel, nj_w_mem (pos := 1461) (by decide +kernel), ⟨by decide +kernel, by decide +kernel⟩, nj_w_mem (pos := 124) (by decide +kernel), by decide +kernel, fun q hq => List.all_eq_true.mp ne_168 q hq⟩
set_option maxRecDepth 100000 in
theorem ne_169 : nm_169.2.2.2.2.2.all (nj_oke nj_M nm_169.1.cls nm_169.2.1) = true := by decide +kernel
set_option maxRecDepth 100000 in
theorem nc_169 : nj_okM nj_M nm_169 := ⟨by decide +kernel, nj_w_mem (pos := 1465) (by decide +kernel), ⟨by decide +kernel, by decide +kernel⟩, nj_w_mem (pos := 124) (by decide +kernel), by decide +kernel, fun q hq => List.all_eq_true.mp ne_169 q hq⟩
set_option maxRecDepth 100000 in
theorem ne_170 : nm_170.2.2.2.2.2.all (nj_oke nj_M nm_170.1.cls nm_170.2.1) = true := by decide +kernel
set_option maxRecDepth 100000 in
theorem nc_170 : nj_okM nj_M nm_170 := ⟨by decide +kernel, nj_w_mem (pos := 1469) (by decide +kernel), ⟨by decide +kernel, by decide +kernel⟩, nj_w_mem (pos := 124) (by decide +kernel), by decide +kernel, fun q hq => List.all_eq_true.mp ne_170 q hq⟩
set_option maxRecDepth 100000 in
theorem ne_171 : nm_171.2.2.2.2.2.all (nj_oke nj_M nm_171.1.cls nm_171.2.1) = true := by decide +kernel
set_option maxRecDepth 100000 in
theorem nc_171 : nj_okM nj_M nm_171 := ⟨by decide +kernel, nj_w_mem (pos := 1473) (by decide +kernel), ⟨by decide +kernel, by decide +kernel⟩, nj_w_mem (pos := 124) (by decide +kernel), by decide +kernel, fun q hq => List.all_eq_true.mp ne_171 q hq⟩
set_option maxRecDepth 100000 in
theorem ne_172 : nm_172.2.2.2.2.2.all (nj_oke nj_M nm_172.1.cls nm_172.2.1) = true := by decide +kernel
set_option maxRecDepth 100000 in
theorem nc_172 : nj_okM nj_M nm_172 := ⟨by decide +kernel, nj_w_mem (pos := 1477) (by decide +kernel), ⟨by decide +kernel, by decide +kernel⟩, nj_w_mem (pos := 124) (by decide +kernel), by decide +kernel, fun q hq => List.all_eq_true.mp ne_172 q hq⟩
set_option maxRecDepth 100000 in
theorem ne_173 : nm_173.2.2.2.2.2.all (nj_oke nj_M nm_173.1.cls nm_173.2.1) = true := by decide +kernel
set_option maxRecDepth 100000 in
theorem nc_173 : nj_okM nj_M nm_173 := ⟨by decide +kernel, nj_w_mem (pos := 1481) (by decide +kernel), ⟨by decide +kernel, by decide +kernel⟩, nj_w_mem (pos := 124) (by decide +kernel), by decide +kernel, fun q hq => List.all_eq_true.mp ne_173 q hq⟩
set_option maxRecDepth 100000 in
theorem ne_174 : nm_174.2.2.2.2.2.all (nj_oke nj_M nm_174.1.cls nm_174.2.1) = true := by decide +kernel
set_option maxRecDepth 100000 in
theorem nc_174 : nj_okM nj_M nm_174 := ⟨by decide +kernel, nj_w_mem (pos := 1485) (by decide +kernel), ⟨by decide +kernel, by decide +kernel⟩, nj_w_mem (pos := 124) (by decide +kernel), by decide +kernel, fun q hq => List.all_eq_true.mp ne_174 q hq⟩
set_option maxRecDepth 100000 in
theorem ne_175 : nm_175.2.2.2.2.2.all (nj_oke nj_M nm_175.1.cls nm_175.2.1) = true := by decide +kernel
set_option maxRecDepth 100000 in
theorem nc_175 : nj_okM nj_M nm_175 := ⟨by decide +kernel, nj_w_mem (pos := 1489) (by decide +kernel), ⟨by decide +kernel, by decide +kernel⟩, nj_w_mem (pos := 124) (by decide +kernel), by decide +kernel, fun q hq => List.all_eq_true.mp ne_175 q hq⟩
set_option maxRecDepth 100000 in
theorem ne_176 : nm_176.2.2.2.2.2.all (nj_oke nj_M nm_176.1.cls nm_176.2.1) = true := by decide +kernel
set_option maxRecDepth 100000 in
theorem nc_176 : nj_okM nj_M nm_176 := ⟨by decide +kernel, nj_w_mem (pos := 1492) (by decide +kernel), ⟨by decide +kernel, by decide +kernel⟩, nj_w_mem (pos := 124) (by decide +kernel), by decide +kernel, fun q hq => List.all_eq_true.mp ne_176 q hq⟩
set_option maxRecDepth 100000 in
theorem ne_177 : nm_177.2.2.2.2.2.all (nj_oke nj_M nm_177.1.cls nm_177.2.1) = true := by decide +kernel
set_option maxRecDepth 100000 in
theorem nc_177 : nj_okM nj_M nm_177 := ⟨by decide +kernel, nj_w_mem (pos := 1496) (by decide +kernel), ⟨by decide +kernel, by decide +kernel⟩, nj_w_mem (pos := 124) (by decide +kernel), by decide +kernel, fun q hq => List.all_eq_true.mp ne_177 q hq⟩
set_option maxRecDepth 100000 in
theorem ne_178 : nm_178.2.2.2.2.2.all (nj_oke nj_M nm_178.1.cls nm_178.2.1) = true := by decide +kernel
set_option maxRecDepth 100000 in
theorem nc_178 : nj_okM nj_M nm_178 := ⟨by decide +kernel, nj_w_mem (pos := 1500) (by decide +kernel), ⟨by decide +kernel, by decide +kernel⟩, nj_w_mem (pos := 124) (by decide +kernel), by decide +kernel, fun q hq => List.all_eq_true.mp ne_178 q hq⟩
set_option maxRecDepth 100000 in
theorem ne_179 : nm_179.2.2.2.2.2.all (nj_oke nj_M nm_179.1.cls nm_179.2.1) = true := by decide +kernel
set_option maxRecDepth 100000 in
theorem nc_179 : nj_okM nj_M nm_179 := ⟨by decide +kernel, nj_w_mem (pos := 1504) (by decide +kernel), ⟨by decide +kernel, by decide +kernel⟩, nj_w_mem (pos := 124) (by decide +kernel), by decide +kernel, fun q hq => List.all_eq_true.mp ne_179 q hq⟩
set_option maxRecDepth 100000 in
theorem ne_180 : nm_180.2.2.2.2.2.all (nj_oke nj_M nm_180.1.cls nm_180.2.1) = true := by decide +kernel
set_option maxRecDepth 100000 in
theorem nc_180 : nj_okM nj_M nm_180 := ⟨by decide +kernel, nj_w_mem (pos := 1508) (by decide +kernel), ⟨by decide +kernel, by decide +kernel⟩, nj_w_mem (pos := 124) (by decide +kernel), by decide +kernel, fun q hq => List.all_eq_true.mp ne_180 q hq⟩
set_option maxRecDepth 100000 in
theorem ne_181 : nm_181.2.2.2.2.2.all (nj_oke nj_M nm_181.1.cls nm_181.2.1) = true := by decide +kernel
set_option maxRecDepth 100000 in
theorem nc_181 : nj_okM nj_M nm_181 := ⟨by decide +kernel, nj_w_mem (pos := 1512) (by decide +kernel), ⟨by decide +kernel, by decide +kernel⟩, nj_w_mem (pos := 124) (by decide +kernel), by decide +kernel, fun q hq => List.all_eq_true.mp ne_181 q hq⟩
set_option maxRecDepth 100000 in
theorem ne_182 : nm_182.2.2.2.2.2.all (nj_oke nj_M nm_182.1.cls nm_182.2.1) = true := by decide +kernel
set_option maxRecDepth 100000 in
theorem nc_182 : nj_okM nj_M nm_182 := ⟨by decide +kernel, nj_w_mem (pos := 1516) (by decide +kernel), ⟨by decide +kernel, by decide +kernel⟩, nj_w_mem (pos := 124) (by decide +kernel), by decide +kernel, fun q hq => List.all_eq_true.mp ne_182 q hq⟩
set_option maxRecDepth 100000 in
theorem ne_183 : nm_183.2.2.2.2.2.all (nj_oke nj_M nm_183.1.cls nm_183.2.1) = true := by decide +kernel
set_option maxRecDepth 100000 in
theorem nc_183 : nj_okM nj_M nm_183 := ⟨by decide +kernel, nj_w_mem (pos := 1519) (by decide +kernel), ⟨by decide +kernel, by decide +kernel⟩, nj_w_mem (pos := 124) (by decide +kernel), by decide +kernel, fun q hq => List.all_eq_true.mp ne_183 q hq⟩
set_option maxRecDepth 100000 in
theorem ne_184 : nm_184.2.2.2.2.2.all (nj_oke nj_M nm_184.1.cls nm_184.2.1) = true := by decide +kernel
set_option maxRecDepth 100000 in
theorem nc_184 : nj_okM nj_M nm_184 := ⟨by decide +kernel, nj_w_mem (pos := 1523) (by decide +kernel), ⟨by decide +kernel, by decide +kernel⟩, nj_w_mem (pos := 124) (by decide +kernel), by decide +kernel, fun q hq => List.all_eq_true.mp ne_184 q hq⟩
set_option maxRecDepth 100000 in
theorem ne_185 : nm_185.2.2.2.2.2.all (nj_oke nj_M nm_185.1.cls nm_185.2.1) = true := by decide +kernel
set_option maxRecDepth 100000 in
theorem nc_185 : nj_okM nj_M nm_185 := ⟨by decide +kernel, nj_w_mem (pos := 1527) (by decide +kernel), ⟨by decide +kernel, by decide +kernel⟩, nj_w_mem (pos := 124) (by decide +kernel), by decide +kernel, fun q hq => List.all_eq_true.mp ne_185 q hq⟩
set_option maxRecDepth 100000 in
theorem ne_186 : nm_186.2.2.2.2.2.all (nj_oke nj_M nm_186.1.cls nm_186.2.1) = true := by decide +kernel
set_option maxRecDepth 100000 in
theorem nc_186 : nj_okM nj_M nm_186 := ⟨by decide +kernel, nj_w_mem (pos := 1531) (by decide +kernel), ⟨by decide +kernel, by decide +kernel⟩, nj_w_mem (pos := 124) (by decide +kernel), by decide +kernel, fun q hq => List.all_eq_true.mp ne_186 q hq⟩
set_option maxRecDepth 100000 in
theorem ne_187 : nm_187.2.2.2.2.2.all (nj_oke nj_M nm_187.1.cls nm_187.2.1) = true := by decide +kernel
set_option maxRecDepth 100000 in
theorem nc_187 : nj_okM nj_M nm_187 := ⟨by decide +kernel, nj_w_mem (pos := 1535) (by decide +kernel), ⟨by decide +kernel, by decide +kernel⟩, nj_w_mem (pos := 124) (by decide +kernel), by decide +kernel, fun q hq => List.all_eq_true.mp ne_187 q hq⟩
set_option maxRecDepth 100000 in
theorem ne_188 : nm_188.2.2.2.2.2.all (nj_oke nj_M nm_188.1.cls nm_188.2.1) = true := by decide +kernel
set_option maxRecDepth 100000 in
theorem nc_188 : nj_okM nj_M nm_188 := ⟨by decide +kernel, nj_w_mem (pos := 1539) (by decide +kernel), ⟨by decide +kernel, by decide +kernel⟩, nj_w_mem (pos := 124) (by decide +kernel), by decide +kernel, fun q hq => List.all_eq_true.mp ne_188 q hq⟩
set_option maxRecDepth 100000 in
theorem ne_189 : nm_189.2.2.2.2.2.all (nj_oke nj_M nm_189.1.cls nm_189.2.1) = true := by decide +kernel
set_option maxRecDepth 100000 in
theorem nc_189 : nj_okM nj_M nm_189 := ⟨by decide +kernel, nj_w_mem (pos := 1543) (by decide +kernel), ⟨by decide +kernel, by decide +kernel⟩, nj_w_mem (pos := 124) (by decide +kernel), by decide +kernel, fun q hq => List.all_eq_true.mp ne_189 q hq⟩
set_option maxRecDepth 100000 in
theorem ne_190 : nm_190.2.2.2.2.2.all (nj_oke nj_M nm_190.1.cls nm_190.2.1) = true := by decide +kernel
set_option maxRecDepth 100000 in
theorem nc_190 : nj_okM nj_M nm_190 := ⟨by decide +kernel, nj_w_mem (pos := 1547) (by decide +kernel), ⟨by decide +kernel, by decide +kernel⟩, nj_w_mem (pos := 124) (by decide +kernel), by decide +kernel, fun q hq => List.all_eq_true.mp ne_190 q hq⟩
set_option maxRecDepth 100000 in
theorem ne_191 : nm_191.2.2.2.2.2.all (nj_oke nj_M nm_191.1.cls nm_191.2.1) = true := by decide +kernel
set_option maxRecDepth 100000 in
theorem nc_191 : nj_okM nj_M nm_191 := ⟨by decide +kernel, nj_w_mem (pos := 1551) (by decide +kernel), ⟨by decide +kernel, by decide +kernel⟩, nj_w_mem (pos := 124) (by decide +kernel), by decide +kernel, fun q hq => List.all_eq_true.mp ne_191 q hq⟩
set_option maxRecDepth 100000 in
theorem ne_192 : nm_192.2.2.2.2.2.all (nj_oke nj_M nm_192.1.cls nm_192.2.1) = true := by decide +kernel
set_option maxRecDepth 100000 in
theorem nc_192 : nj_okM nj_M nm_192 := ⟨by decide +kernel, nj_w_mem (pos := 1555) (by decide +kernel), ⟨by decide +kernel, by decide +kernel⟩, nj_w_mem (pos := 124) (by decide +kernel), by decide +kernel, fun q hq => List.all_eq_true.mp ne_192 q hq⟩
set_option maxRecDepth 100000 in
theorem ne_193 : nm_193.2.2.2.2.2.all (nj_oke nj_M nm_193.1.cls nm_193.2.1) = true := by decide +kernel
set_option maxRecDepth 100000 in
theorem nc_193 : nj_okM nj_M nm_193 := ⟨by decide +kernel, nj_w_mem (pos := 1559) (by decide +kernel), ⟨by decide +kernel, by decide +kernel⟩, nj_w_mem (pos := 124) (by decide +kernel), by decide +kernel, fun q hq => List.all_eq_true.mp ne_193 q hq⟩
set_option maxRecDepth 100000 in
theorem ne_194 : nm_194.2.2.2.2.2.all (nj_oke nj_M nm_194.1.cls nm_194.2.1) = true := by decide +kernel
set_option maxRecDepth 100000 in
theorem nc_194 : nj_okM nj_M nm_194 := ⟨by decide +kernel, nj_w_mem (pos := 1563) (by decide +kernel), ⟨by decide +kernel, by decide +kernel⟩, nj_w_mem (pos := 124) (by decide +kernel), by decide +kernel, fun q hq => List.all_eq_true.mp ne_194 q hq⟩
set_option maxRecDepth 100000 in
theorem ne_195 : nm_195.2.2.2.2.2.all (nj_oke nj_M nm_195.1.cls nm_195.2.1) = true := by decide +kernel
set_option maxRecDepth 100000 in
theorem nc_195 : nj_okM nj_M nm_195 := ⟨by decide +kernel, nj_w_mem (pos := 1567) (by decide +kernel), ⟨by decide +kernel, by decide +kernel⟩, nj_w_mem (pos := 124) (by decide +kernel), by decide +kernel, fun q hq => List.all_eq_true.mp ne_195 q hq⟩
set_option maxRecDepth 100000 in
theorem ne_196 : nm_196.2.2.2.2.2.all (nj_oke nj_M nm_196.1.cls nm_196.2.1) = true := by decide +kernel
set_option maxRecDepth 100000 in
theorem nc_196 : nj_okM nj_M nm_196 := ⟨by decide +kernel, nj_w_mem (pos := 1571) (by decide +kernel), ⟨by decide +kernel, by decide +kernel⟩, nj_w_mem (pos := 124) (by decide +kernel), by decide +kernel, fun q hq => List.all_eq_true.mp ne_196 q hq⟩
set_option maxRecDepth 100000 in
theorem ne_197 : nm_197.2.2.2.2.2.all (nj_oke nj_M nm_197.1.cls nm_197.2.1) = true := by decide +kernel
set_option maxRecDepth 100000 in
theorem nc_197 : nj_okM nj_M nm_197 := ⟨by decide +kernel, nj_w_mem (pos := 1575) (by decide +kernel), ⟨by decide +kernel, by decide +kernel⟩, nj_w_mem (pos := 124) (by decide +kernel), by decide +kernel, fun q hq => List.all_eq_true.mp ne_197 q hq⟩
set_option maxRecDepth 100000 in
theorem ne_198 : nm_198.2.2.2.2.2.all (nj_oke nj_M nm_198.1.cls nm_198.2.1) = true := by decide +kernel
set_option maxRecDepth 100000 in
theorem nc_198 : nj_okM nj_M nm_198 := ⟨by decide +kernel, nj_w_mem (pos := 1579) (by decide +kernel), ⟨by decide +kernel, by decide +kernel⟩, nj_w_mem (pos := 124) (by decide +kernel), by decide +kernel, fun q hq => List.all_eq_true.mp ne_198 q hq⟩
set_option maxRecDepth 100000 in
theorem ne_199 : nm_199.2.2.2.2.2.all (nj_oke nj_M nm_199.1.cls nm_199.2.1) = true := by decide +kernel
set_option maxRecDepth 100000 in
theorem nc_199 : nj_okM nj_M nm_199 := ⟨by decide +kernel, nj_w_mem (pos := 1583) (by decide +kernel), ⟨by decide +kernel, by decide +kernel⟩, nj_w_mem (pos := 124) (by decide +kernel), by decide +kernel, fun q hq => List.all_eq_true.mp ne_199 q hq⟩
set_option maxRecDepth 100000 in
theorem ne_200 : nm_200.2.2.2.2.2.all (nj_oke nj_M nm_200.1.cls nm_200.2.1) = true := by decide +kernel
set_option maxRecDepth 100000 in
theorem nc_200 : nj_okM nj_M nm_200 := ⟨by decide +kernel, nj_w_mem (pos := 1587) (by decide +kernel), ⟨by decide +kernel, by decide +kernel⟩, nj_w_mem (pos := 124) (by decide +kernel), by decide +kernel, fun q hq => List.all_eq_true.mp ne_200 q hq⟩
set_option maxRecDepth 100000 in
theorem ne_201 : nm_201.2.2.2.2.2.all (nj_oke nj_M nm_201.1.cls nm_201.2.1) = true := by decide +kernel
set_option maxRecDepth 100000 in
theorem nc_201 : nj_okM nj_M nm_201 := ⟨by decide +kernel, nj_w_mem (pos := 1591) (by decide +kernel), ⟨by decide +kernel, by decide +kernel⟩, nj_w_mem (pos := 124) (by decide +kernel), by decide +kernel, fun q hq => List.all_eq_true.mp ne_201 q hq⟩
set_option maxRecDepth 100000 in
theorem ne_202 : nm_202.2.2.2.2.2.all (nj_oke nj_M nm_202.1.cls nm_202.2.1) = true := by decide +kernel
set_option maxRecDepth 100000 in
theorem nc_202 : nj_okM nj_M nm_202 := ⟨by decide +kernel, nj_w_mem (pos := 1595) (by decide +kernel), ⟨by decide +kernel, by decide +kernel⟩, nj_w_mem (pos := 124) (by decide +kernel), by decide +kernel, fun q hq => List.all_eq_true.mp ne_202 q hq⟩
set_option maxRecDepth 100000 in
theorem ne_203 : nm_203.2.2.2.2.2.all (nj_oke nj_M nm_203.1.cls nm_203.2.1) = true := by decide +kernel
set_option maxRecDepth 100000 in
theorem nc_203 : nj_okM nj_M nm_203 := ⟨by decide +kernel, nj_w_mem (pos := 1599) (by decide +kernel), ⟨by decide +kernel, by decide +kernel⟩, nj_w_mem (pos := 124) (by decide +kernel), by decide +kernel, fun q hq => List.all_eq_true.mp ne_203 q hq⟩
set_option maxRecDepth 100000 in
theorem ne_204 : nm_204.2.2.2.2.2.all (nj_oke nj_M nm_204.1.cls nm_204.2.1) = true := by decide +kernel
set_option maxRecDepth 100000 in
theorem nc_204 : nj_okM nj_M nm_204 := ⟨by decide +kernel, nj_w_mem (pos := 1603) (by decide +kernel), ⟨by decide +kernel, by decide +kernel⟩, nj_w_mem (pos := 124) (by decide +kernel), by decide +kernel, fun q hq => List.all_eq_true.mp ne_204 q hq⟩
set_option maxRecDepth 100000 in
theorem ne_205 : nm_205.2.2.2.2.2.all (nj_oke nj_M nm_205.1.cls nm_205.2.1) = true := by decide +kernel
set_option maxRecDepth 100000 in
theorem nc_205 : nj_okM nj_M nm_205 := ⟨by decide +kernel, nj_w_mem (pos := 1607) (by decide +kernel), ⟨by decide +kernel, by decide +kernel⟩, nj_w_mem (pos := 124) (by decide +kernel), by decide +kernel, fun q hq => List.all_eq_true.mp ne_205 q hq⟩
set_option maxRecDepth 100000 in
theorem ne_206 : nm_206.2.2.2.2.2.all (nj_oke nj_M nm_206.1.cls nm_206.2.1) = true := by decide +kernel
set_option maxRecDepth 100000 in
theorem nc_206 : nj_okM nj_M nm_206 := ⟨by decide +kernel, nj_w_mem (pos := 1611) (by decide +kernel), ⟨by decide +kernel, by decide +kernel⟩, nj_w_mem (pos := 124) (by decide +kernel), by decide +kernel, fun q hq => List.all_eq_true.mp ne_206 q hq⟩
set_option maxRecDepth 100000 in
theorem ne_207 : nm_207.2.2.2.2.2.all (nj_oke nj_M nm_207.1.cls nm_207.2.1) = true := by decide +kernel
set_option maxRecDepth 100000 in
theorem nc_207 : nj_okM nj_M nm_207 := ⟨by decide +kernel, nj_w_mem (pos := 1615) (by decide +kernel), ⟨by decide +kernel, by decide +kernel⟩, nj_w_mem (pos := 124) (by decide +kernel), by decide +kernel, fun q hq => List.all_eq_true.mp ne_207 q hq⟩
set_option maxRecDepth 100000 in
theorem ne_208 : nm_208.2.2.2.2.2.all (nj_oke nj_M nm_208.1.cls nm_208.2.1) = true := by decide +kernel
set_option maxRecDepth 100000 in
theorem nc_208 : nj_okM nj_M nm_208 := ⟨by decide +kernel, nj_w_mem (pos := 1619) (by decide +kernel), ⟨by decide +kernel, by decide +kernel⟩, nj_w_mem (pos := 124) (by decide +kernel), by decide +kernel, fun q hq => List.all_eq_true.mp ne_208 q hq⟩
set_option maxRecDepth 100000 in
theorem ne_209 : nm_209.2.2.2.2.2.all (nj_oke nj_M nm_209.1.cls nm_209.2.1) = true := by decide +kernel
set_option maxRecDepth 100000 in
theorem nc_209 : nj_okM nj_M nm_209 := ⟨by decide +kernel, nj_w_mem (pos := 1623) (by decide +kernel), ⟨by decide +kernel, by decide +kernel⟩, nj_w_mem (pos := 124) (by decide +kernel), by decide +kernel, fun q hq => List.all_eq_true.mp ne_209 q hq⟩
set_option maxRecDepth 100000 in
theorem ne_210 : nm_210.2.2.2.2.2.all (nj_oke nj_M nm_210.1.cls nm_210.2.1) = true := by decide +kernel
set_option maxRecDepth 100000 in
theorem nc_210 : nj_okM nj_M nm_210 := ⟨by decide +kernel, nj_w_mem (pos := 1627) (by decide +kernel), ⟨by decide +kernel, by decide +kernel⟩, nj_w_mem (pos := 124) (by decide +kernel), by decide +kernel, fun q hq => List.all_eq_true.mp ne_210 q hq⟩
