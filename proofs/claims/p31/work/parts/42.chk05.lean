set_option maxRecDepth 100000 in
theorem ne_211 : nm_211.2.2.2.2.2.all (nj_oke nj_M nm_211.1.cls nm_211.2.1) = true := by decide +kernel
set_option maxRecDepth 100000 in
theorem nc_211 : nj_okM nj_M nm_211 := ⟨by decide +kernel, nj_w_mem (pos := 1631) (by decide +kernel), ⟨by decide +kernel, by decide +kernel⟩, nj_w_mem (pos := 124) (by decide +kernel), by decide +kernel, fun q hq => List.all_eq_true.mp ne_211 q hq⟩
set_option maxRecDepth 100000 in
theorem ne_212 : nm_212.2.2.2.2.2.all (nj_oke nj_M nm_212.1.cls nm_212.2.1) = true := by decide +kernel
set_option maxRecDepth 100000 in
theorem nc_212 : nj_okM nj_M nm_212 := ⟨by decide +kernel, nj_w_mem (pos := 1635) (by decide +kernel), ⟨by decide +kernel, by decide +kernel⟩, nj_w_mem (pos := 124) (by decide +kernel), by decide +kernel, fun q hq => List.all_eq_true.mp ne_212 q hq⟩
set_option maxRecDepth 100000 in
theorem ne_213 : nm_213.2.2.2.2.2.all (nj_oke nj_M nm_213.1.cls nm_213.2.1) = true := by decide +kernel
set_option maxRecDepth 100000 in
theorem nc_213 : nj_okM nj_M nm_213 := ⟨by decide +kernel, nj_w_mem (pos := 1639) (by decide +kernel), ⟨by decide +kernel, by decide +kernel⟩, nj_w_mem (pos := 124) (by decide +kernel), by decide +kernel, fun q hq => List.all_eq_true.mp ne_213 q hq⟩
set_option maxRecDepth 100000 in
theorem ne_214 : nm_214.2.2.2.2.2.all (nj_oke nj_M nm_214.1.cls nm_214.2.1) = true := by decide +kernel
set_option maxRecDepth 100000 in
theorem nc_214 : nj_okM nj_M nm_214 := ⟨by decide +kernel, nj_w_mem (pos := 1643) (by decide +kernel), ⟨by decide +kernel, by decide +kernel⟩, nj_w_mem (pos := 124) (by decide +kernel), by decide +kernel, fun q hq => List.all_eq_true.mp ne_214 q hq⟩
set_option maxRecDepth 100000 in
theorem ne_215 : nm_215.2.2.2.2.2.all (nj_oke nj_M nm_215.1.cls nm_215.2.1) = true := by decide +kernel
set_option maxRecDepth 100000 in
theorem nc_215 : nj_okM nj_M nm_215 := ⟨by decide +kernel, nj_w_mem (pos := 1647) (by decide +kernel), ⟨by decide +kernel, by decide +kernel⟩, nj_w_mem (pos := 124) (by decide +kernel), by decide +kernel, fun q hq => List.all_eq_true.mp ne_215 q hq⟩
set_option maxRecDepth 100000 in
theorem ne_216 : nm_216.2.2.2.2.2.all (nj_oke nj_M nm_216.1.cls nm_216.2.1) = true := by decide +kernel
set_option maxRecDepth 100000 in
theorem nc_216 : nj_okM nj_M nm_216 := ⟨by decide +kernel, nj_w_mem (pos := 1651) (by decide +kernel), ⟨by decide +kernel, by decide +kernel⟩, nj_w_mem (pos := 124) (by decide +kernel), by decide +kernel, fun q hq => List.all_eq_true.mp ne_216 q hq⟩
set_option maxRecDepth 100000 in
theorem ne_217 : nm_217.2.2.2.2.2.all (nj_oke nj_M nm_217.1.cls nm_217.2.1) = true := by decide +kernel
set_option maxRecDepth 100000 in
theorem nc_217 : nj_okM nj_M nm_217 := ⟨by decide +kernel, nj_w_mem (pos := 1655) (by decide +kernel), ⟨by decide +kernel, by decide +kernel⟩, nj_w_mem (pos := 124) (by decide +kernel), by decide +kernel, fun q hq => List.all_eq_true.mp ne_217 q hq⟩
set_option maxRecDepth 100000 in
theorem ne_218 : nm_218.2.2.2.2.2.all (nj_oke nj_M nm_218.1.cls nm_218.2.1) = true := by decide +kernel
set_option maxRecDepth 100000 in
theorem nc_218 : nj_okM nj_M nm_218 := ⟨by decide +kernel, nj_w_mem (pos := 1659) (by decide +kernel), ⟨by decide +kernel, by decide +kernel⟩, nj_w_mem (pos := 124) (by decide +kernel), by decide +kernel, fun q hq => List.all_eq_true.mp ne_218 q hq⟩
set_option maxRecDepth 100000 in
theorem ne_219 : nm_219.2.2.2.2.2.all (nj_oke nj_M nm_219.1.cls nm_219.2.1) = true := by decide +kernel
set_option maxRecDepth 100000 in
theorem nc_219 : nj_okM nj_M nm_219 := ⟨by decide +kernel, nj_w_mem (pos := 1663) (by decide +kernel), ⟨by decide +kernel, by decide +kernel⟩, nj_w_mem (pos := 124) (by decide +kernel), by decide +kernel, fun q hq => List.all_eq_true.mp ne_219 q hq⟩
set_option maxRecDepth 100000 in
theorem ne_220 : nm_220.2.2.2.2.2.all (nj_oke nj_M nm_220.1.cls nm_220.2.1) = true := by decide +kernel
set_option maxRecDepth 100000 in
theorem nc_220 : nj_okM nj_M nm_220 := ⟨by decide +kernel, nj_w_mem (pos := 1667) (by decide +kernel), ⟨by decide +kernel, by decide +kernel⟩, nj_w_mem (pos := 124) (by decide +kernel), by decide +kernel, fun q hq => List.all_eq_true.mp ne_220 q hq⟩
set_option maxRecDepth 100000 in
theorem ne_221 : nm_221.2.2.2.2.2.all (nj_oke nj_M nm_221.1.cls nm_221.2.1) = true := by decide +kernel
set_option maxRecDepth 100000 in
theorem nc_221 : nj_okM nj_M nm_221 := ⟨by decide +kernel, nj_w_mem (pos := 1671) (by decide +kernel), ⟨by decide +kernel, by decide +kernel⟩, nj_w_mem (pos := 124) (by decide +kernel), by decide +kernel, fun q hq => List.all_eq_true.mp ne_221 q hq⟩
set_option maxRecDepth 100000 in
theorem ne_222 : nm_222.2.2.2.2.2.all (nj_oke nj_M nm_222.1.cls nm_222.2.1) = true := by decide +kernel
set_option maxRecDepth 100000 in
theorem nc_222 : nj_okM nj_M nm_222 := ⟨by decide +kernel, nj_w_mem (pos := 1675) (by decide +kernel), ⟨by decide +kernel, by decide +kernel⟩, nj_w_mem (pos := 124) (by decide +kernel), by decide +kernel, fun q hq => List.all_eq_true.mp ne_222 q hq⟩
set_option maxRecDepth 100000 in
theorem ne_223 : nm_223.2.2.2.2.2.all (nj_oke nj_M nm_223.1.cls nm_223.2.1) = true := by decide +kernel
set_option maxRecDepth 100000 in
theorem nc_223 : nj_okM nj_M nm_223 := ⟨by decide +kernel, nj_w_mem (pos := 1679) (by decide +kernel), ⟨by decide +kernel, by decide +kernel⟩, nj_w_mem (pos := 124) (by decide +kernel), by decide +kernel, fun q hq => List.all_eq_true.mp ne_223 q hq⟩
set_option maxRecDepth 100000 in
theorem ne_224 : nm_224.2.2.2.2.2.all (nj_oke nj_M nm_224.1.cls nm_224.2.1) = true := by decide +kernel
set_option maxRecDepth 100000 in
theorem nc_224 : nj_okM nj_M nm_224 := ⟨by decide +kernel, nj_w_mem (pos := 1683) (by decide +kernel), ⟨by decide +kernel, by decide +kernel⟩, nj_w_mem (pos := 124) (by decide +kernel), by decide +kernel, fun q hq => List.all_eq_true.mp ne_224 q hq⟩
set_option maxRecDepth 100000 in
theorem ne_225 : nm_225.2.2.2.2.2.all (nj_oke nj_M nm_225.1.cls nm_225.2.1) = true := by decide +kernel
set_option maxRecDepth 100000 in
theorem nc_225 : nj_okM nj_M nm_225 := ⟨by decide +kernel, nj_w_mem (pos := 1687) (by decide +kernel), ⟨by decide +kernel, by decide +kernel⟩, nj_w_mem (pos := 124) (by decide +kernel), by decide +kernel, fun q hq => List.all_eq_true.mp ne_225 q hq⟩
set_option maxRecDepth 100000 in
theorem ne_226 : nm_226.2.2.2.2.2.all (nj_oke nj_M nm_226.1.cls nm_226.2.1) = true := by decide +kernel
set_option maxRecDepth 100000 in
theorem nc_226 : nj_okM nj_M nm_226 := ⟨by decide +kernel, nj_w_mem (pos := 1691) (by decide +kernel), ⟨by decide +kernel, by decide +kernel⟩, nj_w_mem (pos := 124) (by decide +kernel), by decide +kernel, fun q hq => List.all_eq_true.mp ne_226 q hq⟩
set_option maxRecDepth 100000 in
theorem ne_227 : nm_227.2.2.2.2.2.all (nj_oke nj_M nm_227.1.cls nm_227.2.1) = true := by decide +kernel
set_option maxRecDepth 100000 in
theorem nc_227 : nj_okM nj_M nm_227 := ⟨by decide +kernel, nj_w_mem (pos := 1695) (by decide +kernel), ⟨by decide +kernel, by decide +kernel⟩, nj_w_mem (pos := 124) (by decide +kernel), by decide +kernel, fun q hq => List.all_eq_true.mp ne_227 q hq⟩
set_option maxRecDepth 100000 in
theorem ne_228 : nm_228.2.2.2.2.2.all (nj_oke nj_M nm_228.1.cls nm_228.2.1) = true := by decide +kernel
set_option maxRecDepth 100000 in
theorem nc_228 : nj_okM nj_M nm_228 := ⟨by decide +kernel, nj_w_mem (pos := 1699) (by decide +kernel), ⟨by decide +kernel, by decide +kernel⟩, nj_w_mem (pos := 124) (by decide +kernel), by decide +kernel, fun q hq => List.all_eq_true.mp ne_228 q hq⟩
set_option maxRecDepth 100000 in
theorem ne_229 : nm_229.2.2.2.2.2.all (nj_oke nj_M nm_229.1.cls nm_229.2.1) = true := by decide +kernel
set_option maxRecDepth 100000 in
theorem nc_229 : nj_okM nj_M nm_229 := ⟨by decide +kernel, nj_w_mem (pos := 1703) (by decide +kernel), ⟨by decide +kernel, by decide +kernel⟩, nj_w_mem (pos := 124) (by decide +kernel), by decide +kernel, fun q hq => List.all_eq_true.mp ne_229 q hq⟩
set_option maxRecDepth 100000 in
theorem ne_230 : nm_230.2.2.2.2.2.all (nj_oke nj_M nm_230.1.cls nm_230.2.1) = true := by decide +kernel
set_option maxRecDepth 100000 in
theorem nc_230 : nj_okM nj_M nm_230 := ⟨by decide +kernel, nj_w_mem (pos := 1707) (by decide +kernel), ⟨by decide +kernel, by decide +kernel⟩, nj_w_mem (pos := 124) (by decide +kernel), by decide +kernel, fun q hq => List.all_eq_true.mp ne_230 q hq⟩
set_option maxRecDepth 100000 in
theorem ne_231 : nm_231.2.2.2.2.2.all (nj_oke nj_M nm_231.1.cls nm_231.2.1) = true := by decide +kernel
set_option maxRecDepth 100000 in
theorem nc_231 : nj_okM nj_M nm_231 := ⟨by decide +kernel, nj_w_mem (pos := 1711) (by decide +kernel), ⟨by decide +kernel, by decide +kernel⟩, nj_w_mem (pos := 124) (by decide +kernel), by decide +kernel, fun q hq => List.all_eq_true.mp ne_231 q hq⟩
set_option maxRecDepth 100000 in
theorem ne_232 : nm_232.2.2.2.2.2.all (nj_oke nj_M nm_232.1.cls nm_232.2.1) = true := by decide +kernel
set_option maxRecDepth 100000 in
theorem nc_232 : nj_okM nj_M nm_232 := ⟨by decide +kernel, nj_w_mem (pos := 1716) (by decide +kernel), ⟨by decide +kernel, by decide +kernel⟩, nj_w_mem (pos := 124) (by decide +kernel), by decide +kernel, fun q hq => List.all_eq_true.mp ne_232 q hq⟩
set_option maxRecDepth 100000 in
theorem ne_233 : nm_233.2.2.2.2.2.all (nj_oke nj_M nm_233.1.cls nm_233.2.1) = true := by decide +kernel
set_option maxRecDepth 100000 in
theorem nc_233 : nj_okM nj_M nm_233 := ⟨by decide +kernel, nj_w_mem (pos := 1720) (by decide +kernel), ⟨by decide +kernel, by decide +kernel⟩, nj_w_mem (pos := 124) (by decide +kernel), by decide +kernel, fun q hq => List.all_eq_true.mp ne_233 q hq⟩
set_option maxRecDepth 100000 in
theorem ne_234 : nm_234.2.2.2.2.2.all (nj_oke nj_M nm_234.1.cls nm_234.2.1) = true := by decide +kernel
set_option maxRecDepth 100000 in
theorem nc_234 : nj_okM nj_M nm_234 := ⟨by decide +kernel, nj_w_mem (pos := 1724) (by decide +kernel), ⟨by decide +kernel, by decide +kernel⟩, nj_w_mem (pos := 124) (by decide +kernel), by decide +kernel, fun q hq => List.all_eq_true.mp ne_234 q hq⟩
set_option maxRecDepth 100000 in
theorem ne_235 : nm_235.2.2.2.2.2.all (nj_oke nj_M nm_235.1.cls nm_235.2.1) = true := by decide +kernel
set_option maxRecDepth 100000 in
theorem nc_235 : nj_okM nj_M nm_235 := ⟨by decide +kernel, nj_w_mem (pos := 1728) (by decide +kernel), ⟨by decide +kernel, by decide +kernel⟩, nj_w_mem (pos := 124) (by decide +kernel), by decide +kernel, fun q hq => List.all_eq_true.mp ne_235 q hq⟩
set_option maxRecDepth 100000 in
theorem ne_236 : nm_236.2.2.2.2.2.all (nj_oke nj_M nm_236.1.cls nm_236.2.1) = true := by decide +kernel
set_option maxRecDepth 100000 in
theorem nc_236 : nj_okM nj_M nm_236 := ⟨by decide +kernel, nj_w_mem (pos := 1732) (by decide +kernel), ⟨by decide +kernel, by decide +kernel⟩, nj_w_mem (pos := 124) (by decide +kernel), by decide +kernel, fun q hq => List.all_eq_true.mp ne_236 q hq⟩
set_option maxRecDepth 100000 in
theorem ne_237 : nm_237.2.2.2.2.2.all (nj_oke nj_M nm_237.1.cls nm_237.2.1) = true := by decide +kernel
set_option maxRecDepth 100000 in
theorem nc_237 : nj_okM nj_M nm_237 := ⟨by decide +kernel, nj_w_mem (pos := 1736) (by decide +kernel), ⟨by decide +kernel, by decide +kernel⟩, nj_w_mem (pos := 124) (by decide +kernel), by decide +kernel, fun q hq => List.all_eq_true.mp ne_237 q hq⟩
set_option maxRecDepth 100000 in
theorem ne_238 : nm_238.2.2.2.2.2.all (nj_oke nj_M nm_238.1.cls nm_238.2.1) = true := by decide +kernel
set_option maxRecDepth 100000 in
theorem nc_238 : nj_okM nj_M nm_238 := ⟨by decide +kernel, nj_w_mem (pos := 1740) (by decide +kernel), ⟨by decide +kernel, by decide +kernel⟩, nj_w_mem (pos := 124) (by decide +kernel), by decide +kernel, fun q hq => List.all_eq_true.mp ne_238 q hq⟩
set_option maxRecDepth 100000 in
theorem ne_239 : nm_239.2.2.2.2.2.all (nj_oke nj_M nm_239.1.cls nm_239.2.1) = true := by decide +kernel
set_option maxRecDepth 100000 in
theorem nc_239 : nj_okM nj_M nm_239 := ⟨by decide +kernel, nj_w_mem (pos := 1744) (by decide +kernel), ⟨by decide +kernel, by decide +kernel⟩, nj_w_mem (pos := 124) (by decide +kernel), by decide +kernel, fun q hq => List.all_eq_true.mp ne_239 q hq⟩
set_option maxRecDepth 100000 in
theorem ne_240 : nm_240.2.2.2.2.2.all (nj_oke nj_M nm_240.1.cls nm_240.2.1) = true := by decide +kernel
set_option maxRecDepth 100000 in
theorem nc_240 : nj_okM nj_M nm_240 := ⟨by decide +kernel, nj_w_mem (pos := 1748) (by decide +kernel), ⟨by decide +kernel, by decide +kernel⟩, nj_w_mem (pos := 124) (by decide +kernel), by decide +kernel, fun q hq => List.all_eq_true.mp ne_240 q hq⟩
set_option maxRecDepth 100000 in
theorem ne_241 : nm_241.2.2.2.2.2.all (nj_oke nj_M nm_241.1.cls nm_241.2.1) = true := by decide +kernel
set_option maxRecDepth 100000 in
theorem nc_241 : nj_okM nj_M nm_241 := ⟨by decide +kernel, nj_w_mem (pos := 1752) (by decide +kernel), ⟨by decide +kernel, by decide +kernel⟩, nj_w_mem (pos := 124) (by decide +kernel), by decide +kernel, fun q hq => List.all_eq_true.mp ne_241 q hq⟩
set_option maxRecDepth 100000 in
theorem ne_242 : nm_242.2.2.2.2.2.all (nj_oke nj_M nm_242.1.cls nm_242.2.1) = true := by decide +kernel
set_option maxRecDepth 100000 in
theorem nc_242 : nj_okM nj_M nm_242 := ⟨by decide +kernel, nj_w_mem (pos := 1756) (by decide +kernel), ⟨by decide +kernel, by decide +kernel⟩, nj_w_mem (pos := 124) (by decide +kernel), by decide +kernel, fun q hq => List.all_eq_true.mp ne_242 q hq⟩
set_option maxRecDepth 100000 in
theorem ne_243 : nm_243.2.2.2.2.2.all (nj_oke nj_M nm_243.1.cls nm_243.2.1) = true := by decide +kernel
set_option maxRecDepth 100000 in
theorem nc_243 : nj_okM nj_M nm_243 := ⟨by decide +kernel, nj_w_mem (pos := 1760) (by decide +kernel), ⟨by decide +kernel, by decide +kernel⟩, nj_w_mem (pos := 124) (by decide +kernel), by decide +kernel, fun q hq => List.all_eq_true.mp ne_243 q hq⟩
set_option maxRecDepth 100000 in
theorem ne_244 : nm_244.2.2.2.2.2.all (nj_oke nj_M nm_244.1.cls nm_244.2.1) = true := by decide +kernel
set_option maxRecDepth 100000 in
theorem nc_244 : nj_okM nj_M nm_244 := ⟨by decide +kernel, nj_w_mem (pos := 1764) (by decide +kernel), ⟨by decide +kernel, by decide +kernel⟩, nj_w_mem (pos := 124) (by decide +kernel), by decide +kernel, fun q hq => List.all_eq_true.mp ne_244 q hq⟩
set_option maxRecDepth 100000 in
theorem ne_245 : nm_245.2.2.2.2.2.all (nj_oke nj_M nm_245.1.cls nm_245.2.1) = true := by decide +kernel
set_option maxRecDepth 100000 in
theorem nc_245 : nj_okM nj_M nm_245 := ⟨by decide +kernel, nj_w_mem (pos := 1768) (by decide +kernel), ⟨by decide +kernel, by decide +kernel⟩, nj_w_mem (pos := 124) (by decide +kernel), by decide +kernel, fun q hq => List.all_eq_true.mp ne_245 q hq⟩
set_option maxRecDepth 100000 in
theorem ne_246 : nm_246.2.2.2.2.2.all (nj_oke nj_M nm_246.1.cls nm_246.2.1) = true := by decide +kernel
set_option maxRecDepth 100000 in
theorem nc_246 : nj_okM nj_M nm_246 := ⟨by decide +kernel, nj_w_mem (pos := 1773) (by decide +kernel), ⟨by decide +kernel, by decide +kernel⟩, nj_w_mem (pos := 124) (by decide +kernel), by decide +kernel, fun q hq => List.all_eq_true.mp ne_246 q hq⟩
set_option maxRecDepth 100000 in
theorem ne_247 : nm_247.2.2.2.2.2.all (nj_oke nj_M nm_247.1.cls nm_247.2.1) = true := by decide +kernel
set_option maxRecDepth 100000 in
theorem nc_247 : nj_okM nj_M nm_247 := ⟨by decide +kernel, nj_w_mem (pos := 1777) (by decide +kernel), ⟨by decide +kernel, by decide +kernel⟩, nj_w_mem (pos := 124) (by decide +kernel), by decide +kernel, fun q hq => List.all_eq_true.mp ne_247 q hq⟩
