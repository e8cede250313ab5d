set_option maxRecDepth 100000 in
theorem vf_334_14 : aFrom nj_M nFT nAT nx_334 nw_334 none nk_334.2.2.2.2.1 nk_334.2.2.2.2.2.1 nk_334.2.2.2.2.2.2 nk_334.2.2.1.1.length nk_334.2.2.1.2.1.length nk_334.2.1 nk_334.1 nu_334 63 nu_334_14 = true := by decide +kernel
set_option maxRecDepth 100000 in
theorem vf_334_15 : aFrom nj_M nFT nAT nx_334 nw_334 none nk_334.2.2.2.2.1 nk_334.2.2.2.2.2.1 nk_334.2.2.2.2.2.2 nk_334.2.2.1.1.length nk_334.2.2.1.2.1.length nk_334.2.1 nk_334.1 nu_334 63 nu_334_15 = true := by decide +kernel
set_option maxRecDepth 100000 in
theorem vf_334_16 : aFrom nj_M nFT nAT nx_334 nw_334 none nk_334.2.2.2.2.1 nk_334.2.2.2.2.2.1 nk_334.2.2.2.2.2.2 nk_334.2.2.1.1.length nk_334.2.2.1.2.1.length nk_334.2.1 nk_334.1 nu_334 63 nu_334_16 = true := by decide +kernel
set_option maxRecDepth 100000 in
theorem vf_334_17 : aFrom nj_M nFT nAT nx_334 nw_334 none nk_334.2.2.2.2.1 nk_334.2.2.2.2.2.1 nk_334.2.2.2.2.2.2 nk_334.2.2.1.1.length nk_334.2.2.1.2.1.length nk_334.2.1 nk_334.1 nu_334 63 nu_334_17 = true := by decide +kernel
set_option maxRecDepth 100000 in
theorem vf_334_18 : aFrom nj_M nFT nAT nx_334 nw_334 none nk_334.2.2.2.2.1 nk_334.2.2.2.2.2.1 nk_334.2.2.2.2.2.2 nk_334.2.2.1.1.length nk_334.2.2.1.2.1.length nk_334.2.1 nk_334.1 nu_334 63 nu_334_18 = true := by decide +kernel
set_option maxRecDepth 100000 in
theorem vf_334_19 : aFrom nj_M nFT nAT nx_334 nw_334 none nk_334.2.2.2.2.1 nk_334.2.2.2.2.2.1 nk_334.2.2.2.2.2.2 nk_334.2.2.1.1.length nk_334.2.2.1.2.1.length nk_334.2.1 nk_334.1 nu_334 63 nu_334_19 = true := by decide +kernel
set_option maxRecDepth 100000 in
theorem vf_334_20 : aFrom nj_M nFT nAT nx_334 nw_334 none nk_334.2.2.2.2.1 nk_334.2.2.2.2.2.1 nk_334.2.2.2.2.2.2 nk_334.2.2.1.1.length nk_334.2.2.1.2.1.length nk_334.2.1 nk_334.1 nu_334 63 nu_334_20 = true := by decide +kernel
set_option maxRecDepth 100000 in
theorem vf_334_21 : aFrom nj_M nFT nAT nx_334 nw_334 none nk_334.2.2.2.2.1 nk_334.2.2.2.2.2.1 nk_334.2.2.2.2.2.2 nk_334.2.2.1.1.length nk_334.2.2.1.2.1.length nk_334.2.1 nk_334.1 nu_334 63 nu_334_21 = true := by decide +kernel
set_option maxRecDepth 100000 in
theorem vf_334_22 : aFrom nj_M nFT nAT nx_334 nw_334 none nk_334.2.2.2.2.1 nk_334.2.2.2.2.2.1 nk_334.2.2.2.2.2.2 nk_334.2.2.1.1.length nk_334.2.2.1.2.1.length nk_334.2.1 nk_334.1 nu_334 63 nu_334_22 = true := by decide +kernel
set_option maxRecDepth 100000 in
theorem vf_334_23 : aFrom nj_M nFT nAT nx_334 nw_334 none nk_334.2.2.2.2.1 nk_334.2.2.2.2.2.1 nk_334.2.2.2.2.2.2 nk_334.2.2.1.1.length nk_334.2.2.1.2.1.length nk_334.2.1 nk_334.1 nu_334 63 nu_334_23 = true := by decide +kernel
set_option maxRecDepth 100000 in
theorem vf_334_24 : aFrom nj_M nFT nAT nx_334 nw_334 none nk_334.2.2.2.2.1 nk_334.2.2.2.2.2.1 nk_334.2.2.2.2.2.2 nk_334.2.2.1.1.length nk_334.2.2.1.2.1.length nk_334.2.1 nk_334.1 nu_334 63 nu_334_24 = true := by decide +kernel
set_option maxRecDepth 100000 in
theorem vf_334_25 : aFrom nj_M nFT nAT nx_334 nw_334 none nk_334.2.2.2.2.1 nk_334.2.2.2.2.2.1 nk_334.2.2.2.2.2.2 nk_334.2.2.1.1.length nk_334.2.2.1.2.1.length nk_334.2.1 nk_334.1 nu_334 63 nu_334_25 = true := by decide +kernel
