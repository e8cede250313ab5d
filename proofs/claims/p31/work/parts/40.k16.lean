set_option maxRecDepth 100000 in
theorem vf_334_2 : aFrom nj_M nFT nAT nx_334 nw_334 none nk_334.2.2.2.2.1 nk_334.2.2.2.2.2.1 nk_334.2.2.2.2.2.2 nk_334.2.2.1.1.length nk_334.2.2.1.2.1.length nk_334.2.1 nk_334.1 nu_334 63 nu_334_2 = true := by decide +kernel
set_option maxRecDepth 100000 in
theorem vf_334_3 : aFrom nj_M nFT nAT nx_334 nw_334 none nk_334.2.2.2.2.1 nk_334.2.2.2.2.2.1 nk_334.2.2.2.2.2.2 nk_334.2.2.1.1.length nk_334.2.2.1.2.1.length nk_334.2.1 nk_334.1 nu_334 63 nu_334_3 = true := by decide +kernel
set_option maxRecDepth 100000 in
theorem vf_334_4 : aFrom nj_M nFT nAT nx_334 nw_334 none nk_334.2.2.2.2.1 nk_334.2.2.2.2.2.1 nk_334.2.2.2.2.2.2 nk_334.2.2.1.1.length nk_334.2.2.1.2.1.length nk_334.2.1 nk_334.1 nu_334 63 nu_334_4 = true := by decide +kernel
set_option maxRecDepth 100000 in
theorem vf_334_5 : aFrom nj_M nFT nAT nx_334 nw_334 none nk_334.2.2.2.2.1 nk_334.2.2.2.2.2.1 nk_334.2.2.2.2.2.2 nk_334.2.2.1.1.length nk_334.2.2.1.2.1.length nk_334.2.1 nk_334.1 nu_334 63 nu_334_5 = true := by decide +kernel
set_option maxRecDepth 100000 in
theorem vf_334_6 : aFrom nj_M nFT nAT nx_334 nw_334 none nk_334.2.2.2.2.1 nk_334.2.2.2.2.2.1 nk_334.2.2.2.2.2.2 nk_334.2.2.1.1.length nk_334.2.2.1.2.1.length nk_334.2.1 nk_334.1 nu_334 63 nu_334_6 = true := by decide +kernel
set_option maxRecDepth 100000 in
theorem vf_334_7 : aFrom nj_M nFT nAT nx_334 nw_334 none nk_334.2.2.2.2.1 nk_334.2.2.2.2.2.1 nk_334.2.2.2.2.2.2 nk_334.2.2.1.1.length nk_334.2.2.1.2.1.length nk_334.2.1 nk_334.1 nu_334 63 nu_334_7 = true := by decide +kernel
set_option maxRecDepth 100000 in
theorem vf_334_8 : aFrom nj_M nFT nAT nx_334 nw_334 none nk_334.2.2.2.2.1 nk_334.2.2.2.2.2.1 nk_334.2.2.2.2.2.2 nk_334.2.2.1.1.length nk_334.2.2.1.2.1.length nk_334.2.1 nk_334.1 nu_334 63 nu_334_8 = true := by decide +kernel
set_option maxRecDepth 100000 in
theorem vf_334_9 : aFrom nj_M nFT nAT nx_334 nw_334 none nk_334.2.2.2.2.1 nk_334.2.2.2.2.2.1 nk_334.2.2.2.2.2.2 nk_334.2.2.1.1.length nk_334.2.2.1.2.1.length nk_334.2.1 nk_334.1 nu_334 63 nu_334_9 = true := by decide +kernel
set_option maxRecDepth 100000 in
theorem vf_334_10 : aFrom nj_M nFT nAT nx_334 nw_334 none nk_334.2.2.2.2.1 nk_334.2.2.2.2.2.1 nk_334.2.2.2.2.2.2 nk_334.2.2.1.1.length nk_334.2.2.1.2.1.length nk_334.2.1 nk_334.1 nu_334 63 nu_334_10 = true := by decide +kernel
set_option maxRecDepth 100000 in
theorem vf_334_11 : aFrom nj_M nFT nAT nx_334 nw_334 none nk_334.2.2.2.2.1 nk_334.2.2.2.2.2.1 nk_334.2.2.2.2.2.2 nk_334.2.2.1.1.length nk_334.2.2.1.2.1.length nk_334.2.1 nk_334.1 nu_334 63 nu_334_11 = true := by decide +kernel
set_option maxRecDepth 100000 in
theorem vf_334_12 : aFrom nj_M nFT nAT nx_334 nw_334 none nk_334.2.2.2.2.1 nk_334.2.2.2.2.2.1 nk_334.2.2.2.2.2.2 nk_334.2.2.1.1.length nk_334.2.2.1.2.1.length nk_334.2.1 nk_334.1 nu_334 63 nu_334_12 = true := by decide +kernel
set_option maxRecDepth 100000 in
theorem vf_334_13 : aFrom nj_M nFT nAT nx_334 nw_334 none nk_334.2.2.2.2.1 nk_334.2.2.2.2.2.1 nk_334.2.2.2.2.2.2 nk_334.2.2.1.1.length nk_334.2.2.1.2.1.length nk_334.2.1 nk_334.1 nu_334 63 nu_334_13 = true := by decide +kernel
