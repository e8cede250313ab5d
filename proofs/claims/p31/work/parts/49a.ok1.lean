set_option maxRecDepth 100000 in
theorem ne_265_5 : ((nm_265.2.2.2.2.2.drop 425).take 85).all (nj_oke nj_M nm_265.1.cls nm_265.2.1) = true := by decide +kernel
set_option maxRecDepth 100000 in
theorem ne_265_6 : ((nm_265.2.2.2.2.2.drop 510).take 85).all (nj_oke nj_M nm_265.1.cls nm_265.2.1) = true := by decide +kernel
set_option maxRecDepth 100000 in
theorem ne_265_7 : ((nm_265.2.2.2.2.2.drop 595).take 85).all (nj_oke nj_M nm_265.1.cls nm_265.2.1) = true := by decide +kernel
set_option maxRecDepth 100000 in
theorem ne_265_8 : ((nm_265.2.2.2.2.2.drop 680).take 85).all (nj_oke nj_M nm_265.1.cls nm_265.2.1) = true := by decide +kernel
set_option maxRecDepth 100000 in
theorem ne_265_9 : ((nm_265.2.2.2.2.2.drop 765).take 85).all (nj_oke nj_M nm_265.1.cls nm_265.2.1) = true := by decide +kernel
set_option maxRecDepth 100000 in
theorem ne_265 : nm_265.2.2.2.2.2.all (nj_oke nj_M nm_265.1.cls nm_265.2.1) = true := (all_cut (a := 0) (b := 85) ne_265_0 (all_cut (a := 85) (b := 85) ne_265_1 (all_cut (a := 170) (b := 85) ne_265_2 (all_cut (a := 255) (b := 85) ne_265_3 (all_cut (a := 340) (b := 85) ne_265_4 (all_cut (a := 425) (b := 85) ne_265_5 (all_cut (a := 510) (b := 85) ne_265_6 (all_cut (a := 595) (b := 85) ne_265_7 (all_cut (a := 680) (b := 85) ne_265_8 (all_cut (a := 765) (b := 85) ne_265_9 (show (nm_265.2.2.2.2.2.drop 850).all (nj_oke nj_M nm_265.1.cls nm_265.2.1) = true from rfl)))))))))))
theorem nc_265 : nj_okE nj_M nm_265 := fun q hq => List.all_eq_true.mp ne_265 q hq
set_option maxRecDepth 100000 in
theorem x6_265 : nm_265.2.2.2.2.2.all (fun q => !(q.2.2.2.2.1 == 6) || (decide (q = (358, .invokestatic 41, 0, 4, 6, 1165)) || decide (q = (733, .invokestatic 93, 1, 4, 6, 1235)))) = true := by decide +kernel
theorem ne_lP : nm_lP.2.2.2.2.2.all (nj_oke nj_M nm_lP.1.cls nm_lP.2.1) = true := by decide +kernel
theorem ne_lQ : nm_lQ.2.2.2.2.2.all (nj_oke nj_M nm_lQ.1.cls nm_lQ.2.1) = true := by decide +kernel
