set_option maxRecDepth 100000 in
theorem ne_248 : nm_248.2.2.2.2.2.all (nj_oke nj_M nm_248.1.cls nm_248.2.1) = true := by decide +kernel
set_option maxRecDepth 100000 in
theorem nc_248 : nj_okM nj_M nm_248 := ⟨by decide +kernel, nj_w_mem (pos := 1781) (by decide +kernel), ⟨by decide +kernel, by decide +kernel⟩, nj_w_mem (pos := 124) (by decide +kernel), by decide +kernel, fun q hq => List.all_eq_true.mp ne_248 q hq⟩
set_option maxRecDepth 100000 in
theorem ne_249 : nm_249.2.2.2.2.2.all (nj_oke nj_M nm_249.1.cls nm_249.2.1) = true := by decide +kernel
set_option maxRecDepth 100000 in
theorem nc_249 : nj_okM nj_M nm_249 := ⟨by decide +kernel, nj_w_mem (pos := 1785) (by decide +kernel), ⟨by decide +kernel, by decide +kernel⟩, nj_w_mem (pos := 124) (by decide +kernel), by decide +kernel, fun q hq => List.all_eq_true.mp ne_249 q hq⟩
set_option maxRecDepth 100000 in
theorem ne_250 : nm_250.2.2.2.2.2.all (nj_oke nj_M nm_250.1.cls nm_250.2.1) = true := by decide +kernel
set_option maxRecDepth 100000 in
theorem nc_250 : nj_okM nj_M nm_250 := ⟨by decide +kernel, nj_w_mem (pos := 1789) (by decide +kernel), ⟨by decide +kernel, by decide +kernel⟩, nj_w_mem (pos := 124) (by decide +kernel), by decide +kernel, fun q hq => List.all_eq_true.mp ne_250 q hq⟩
set_option maxRecDepth 100000 in
theorem ne_251 : nm_251.2.2.2.2.2.all (nj_oke nj_M nm_251.1.cls nm_251.2.1) = true := by decide +kernel
set_option maxRecDepth 100000 in
theorem nc_251 : nj_okM nj_M nm_251 := ⟨by decide +kernel, nj_w_mem (pos := 1793) (by decide +kernel), ⟨by decide +kernel, by decide +kernel⟩, nj_w_mem (pos := 124) (by decide +kernel), by decide +kernel, fun q hq => List.all_eq_true.mp ne_251 q hq⟩
set_option maxRecDepth 100000 in
theorem ne_252 : nm_252.2.2.2.2.2.all (nj_oke nj_M nm_252.1.cls nm_252.2.1) = true := by decide +kernel
set_option maxRecDepth 100000 in
theorem nc_252 : nj_okM nj_M nm_252 := ⟨by decide +kernel, nj_w_mem (pos := 1797) (by decide +kernel), ⟨by decide +kernel, by decide +kernel⟩, nj_w_mem (pos := 124) (by decide +kernel), by decide +kernel, fun q hq => List.all_eq_true.mp ne_252 q hq⟩
set_option maxRecDepth 100000 in
theorem ne_253 : nm_253.2.2.2.2.2.all (nj_oke nj_M nm_253.1.cls nm_253.2.1) = true := by decide +kernel
set_option maxRecDepth 100000 in
theorem nc_253 : nj_okM nj_M nm_253 := ⟨by decide +kernel, nj_w_mem (pos := 1801) (by decide +kernel), ⟨by decide +kernel, by decide +kernel⟩, nj_w_mem (pos := 124) (by decide +kernel), by decide +kernel, fun q hq => List.all_eq_true.mp ne_253 q hq⟩
set_option maxRecDepth 100000 in
theorem ne_254 : nm_254.2.2.2.2.2.all (nj_oke nj_M nm_254.1.cls nm_254.2.1) = true := by decide +kernel
set_option maxRecDepth 100000 in
theorem nc_254 : nj_okM nj_M nm_254 := ⟨by decide +kernel, nj_w_mem (pos := 1805) (by decide +kernel), ⟨by decide +kernel, by decide +kernel⟩, nj_w_mem (pos := 124) (by decide +kernel), by decide +kernel, fun q hq => List.all_eq_true.mp ne_254 q hq⟩
set_option maxRecDepth 100000 in
theorem ne_255 : nm_255.2.2.2.2.2.all (nj_oke nj_M nm_255.1.cls nm_255.2.1) = true := by decide +kernel
set_option maxRecDepth 100000 in
theorem nc_255 : nj_okM nj_M nm_255 := ⟨by decide +kernel, nj_w_mem (pos := 1809) (by decide +kernel), ⟨by decide +kernel, by decide +kernel⟩, nj_w_mem (pos := 124) (by decide +kernel), by decide +kernel, fun q hq => List.all_eq_true.mp ne_255 q hq⟩
set_option maxRecDepth 100000 in
theorem ne_256 : nm_256.2.2.2.2.2.all (nj_oke nj_M nm_256.1.cls nm_256.2.1) = true := by decide +kernel
set_option maxRecDepth 100000 in
theorem nc_256 : nj_okM nj_M nm_256 := ⟨by decide +kernel, nj_w_mem (pos := 1813) (by decide +kernel), ⟨by decide +kernel, by decide +kernel⟩, nj_w_mem (pos := 124) (by decide +kernel), by decide +kernel, fun q hq => List.all_eq_true.mp ne_256 q hq⟩
set_option maxRecDepth 100000 in
theorem ne_257 : nm_257.2.2.2.2.2.all (nj_oke nj_M nm_257.1.cls nm_257.2.1) = true := by decide +kernel
set_option maxRecDepth 100000 in
theorem nc_257 : nj_okM nj_M nm_257 := ⟨by decide +kernel, nj_w_mem (pos := 1817) (by decide +kernel), ⟨by decide +kernel, by decide +kernel⟩, nj_w_mem (pos := 124) (by decide +kernel), by decide +kernel, fun q hq => List.all_eq_true.mp ne_257 q hq⟩
set_option maxRecDepth 100000 in
theorem ne_258 : nm_258.2.2.2.2.2.all (nj_oke nj_M nm_258.1.cls nm_258.2.1) = true := by decide +kernel
set_option maxRecDepth 100000 in
theorem nc_258 : nj_okM nj_M nm_258 := ⟨by decide +kernel, nj_w_mem (pos := 1821) (by decide +kernel), ⟨by decide +kernel, by decide +kernel⟩, nj_w_mem (pos := 124) (by decide +kernel), by decide +kernel, fun q hq => List.all_eq_true.mp ne_258 q hq⟩
set_option maxRecDepth 100000 in
theorem ne_259 : nm_259.2.2.2.2.2.all (nj_oke nj_M nm_259.1.cls nm_259.2.1) = true := by decide +kernel
set_option maxRecDepth 100000 in
theorem nc_259 : nj_okM nj_M nm_259 := ⟨by decide +kernel, nj_w_mem (pos := 1825) (by decide +kernel), ⟨by decide +kernel, by decide +kernel⟩, nj_w_mem (pos := 124) (by decide +kernel), by decide +kernel, fun q hq => List.all_eq_true.mp ne_259 q hq⟩
set_option maxRecDepth 100000 in
theorem ne_260 : nm_260.2.2.2.2.2.all (nj_oke nj_M nm_260.1.cls nm_260.2.1) = true := by decide +kernel
set_option maxRecDepth 100000 in
theorem nc_260 : nj_okM nj_M nm_260 := ⟨by decide +kernel, nj_w_mem (pos := 1829) (by decide +kernel), ⟨by decide +kernel, by decide +kernel⟩, nj_w_mem (pos := 124) (by decide +kernel), by decide +kernel, fun q hq => List.all_eq_true.mp ne_260 q hq⟩
set_option maxRecDepth 100000 in
theorem ne_261 : nm_261.2.2.2.2.2.all (nj_oke nj_M nm_261.1.cls nm_261.2.1) = true := by decide +kernel
set_option maxRecDepth 100000 in
theorem nc_261 : nj_okM nj_M nm_261 := ⟨by decide +kernel, nj_w_mem (pos := 1832) (by decide +kernel), ⟨by decide +kernel, by decide +kernel⟩, nj_w_mem (pos := 124) (by decide +kernel), by decide +kernel, fun q hq => List.all_eq_true.mp ne_261 q hq⟩
set_option maxRecDepth 100000 in
theorem ne_262 : nm_262.2.2.2.2.2.all (nj_oke nj_M nm_262.1.cls nm_262.2.1) = true := by decide +kernel
set_option maxRecDepth 100000 in
theorem nc_262 : nj_okM nj_M nm_262 := ⟨by decide +kernel, nj_w_mem (pos := 1836) (by decide +kernel), ⟨by decide +kernel, by decide +kernel⟩, nj_w_mem (pos := 124) (by decide +kernel), by decide +kernel, fun q hq => List.all_eq_true.mp ne_262 q hq⟩
set_option maxRecDepth 100000 in
theorem ne_263 : nm_263.2.2.2.2.2.all (nj_oke nj_M nm_263.1.cls nm_263.2.1) = true := by decide +kernel
set_option maxRecDepth 100000 in
theorem nc_263 : nj_okM nj_M nm_263 := ⟨by decide +kernel, nj_w_mem (pos := 1840) (by decide +kernel), ⟨by decide +kernel, by decide +kernel⟩, nj_w_mem (pos := 124) (by decide +kernel), by decide +kernel, fun q hq => List.all_eq_true.mp ne_263 q hq⟩
set_option maxRecDepth 100000 in
theorem ne_264 : nm_264.2.2.2.2.2.all (nj_oke nj_M nm_264.1.cls nm_264.2.1) = true := by decide +kernel
set_option maxRecDepth 100000 in
theorem nc_264 : nj_okM nj_M nm_264 := ⟨by decide +kernel, nj_w_mem (pos := 1844) (by decide +kernel), ⟨by decide +kernel, by decide +kernel⟩, nj_w_mem (pos := 124) (by decide +kernel), by decide +kernel, fun q hq => List.all_eq_true.mp ne_264 q hq⟩
