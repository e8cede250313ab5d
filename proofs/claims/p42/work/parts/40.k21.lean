set_option maxRecDepth 100000 in
theorem vf_343_6 : aFrom nj_M nFT nAT2 nx_343 nw_343 none nk_343.2.2.2.2.1 nk_343.2.2.2.2.2.1 nk_343.2.2.2.2.2.2 nk_343.2.2.1.1.length nk_343.2.2.1.2.1.length nk_343.2.1 nk_343.1 nu_343 46 nu_343_6 = true := by decide +kernel
set_option maxRecDepth 100000 in
theorem vf_343_7 : aFrom nj_M nFT nAT2 nx_343 nw_343 none nk_343.2.2.2.2.1 nk_343.2.2.2.2.2.1 nk_343.2.2.2.2.2.2 nk_343.2.2.1.1.length nk_343.2.2.1.2.1.length nk_343.2.1 nk_343.1 nu_343 46 nu_343_7 = true := by decide +kernel
set_option maxRecDepth 100000 in
theorem vf_343_8 : aFrom nj_M nFT nAT2 nx_343 nw_343 none nk_343.2.2.2.2.1 nk_343.2.2.2.2.2.1 nk_343.2.2.2.2.2.2 nk_343.2.2.1.1.length nk_343.2.2.1.2.1.length nk_343.2.1 nk_343.1 nu_343 46 nu_343_8 = true := by decide +kernel
set_option maxRecDepth 100000 in
theorem vf_343_9 : aFrom nj_M nFT nAT2 nx_343 nw_343 none nk_343.2.2.2.2.1 nk_343.2.2.2.2.2.1 nk_343.2.2.2.2.2.2 nk_343.2.2.1.1.length nk_343.2.2.1.2.1.length nk_343.2.1 nk_343.1 nu_343 46 nu_343_9 = true := by decide +kernel
set_option maxRecDepth 100000 in
theorem vf_343_10 : aFrom nj_M nFT nAT2 nx_343 nw_343 none nk_343.2.2.2.2.1 nk_343.2.2.2.2.2.1 nk_343.2.2.2.2.2.2 nk_343.2.2.1.1.length nk_343.2.2.1.2.1.length nk_343.2.1 nk_343.1 nu_343 46 nu_343_10 = true := by decide +kernel
set_option maxRecDepth 100000 in
theorem vf_343_11 : aFrom nj_M nFT nAT2 nx_343 nw_343 none nk_343.2.2.2.2.1 nk_343.2.2.2.2.2.1 nk_343.2.2.2.2.2.2 nk_343.2.2.1.1.length nk_343.2.2.1.2.1.length nk_343.2.1 nk_343.1 nu_343 46 nu_343_11 = true := by decide +kernel
set_option maxRecDepth 100000 in
theorem vf_343_12 : aFrom nj_M nFT nAT2 nx_343 nw_343 none nk_343.2.2.2.2.1 nk_343.2.2.2.2.2.1 nk_343.2.2.2.2.2.2 nk_343.2.2.1.1.length nk_343.2.2.1.2.1.length nk_343.2.1 nk_343.1 nu_343 46 nu_343_12 = true := by decide +kernel
set_option maxRecDepth 100000 in
theorem vf_343_13 : aFrom nj_M nFT nAT2 nx_343 nw_343 none nk_343.2.2.2.2.1 nk_343.2.2.2.2.2.1 nk_343.2.2.2.2.2.2 nk_343.2.2.1.1.length nk_343.2.2.1.2.1.length nk_343.2.1 nk_343.1 nu_343 46 nu_343_13 = true := by decide +kernel
set_option maxRecDepth 100000 in
theorem vf_343_14 : aFrom nj_M nFT nAT2 nx_343 nw_343 none nk_343.2.2.2.2.1 nk_343.2.2.2.2.2.1 nk_343.2.2.2.2.2.2 nk_343.2.2.1.1.length nk_343.2.2.1.2.1.length nk_343.2.1 nk_343.1 nu_343 46 nu_343_14 = true := by decide +kernel
set_option maxRecDepth 100000 in
theorem vf_343_15 : aFrom nj_M nFT nAT2 nx_343 nw_343 none nk_343.2.2.2.2.1 nk_343.2.2.2.2.2.1 nk_343.2.2.2.2.2.2 nk_343.2.2.1.1.length nk_343.2.2.1.2.1.length nk_343.2.1 nk_343.1 nu_343 46 nu_343_15 = true := by decide +kernel
set_option maxRecDepth 100000 in
theorem vf_343_16 : aFrom nj_M nFT nAT2 nx_343 nw_343 none nk_343.2.2.2.2.1 nk_343.2.2.2.2.2.1 nk_343.2.2.2.2.2.2 nk_343.2.2.1.1.length nk_343.2.2.1.2.1.length nk_343.2.1 nk_343.1 nu_343 46 nu_343_16 = true := by decide +kernel
set_option maxRecDepth 100000 in
theorem vf_343_17 : aFrom nj_M nFT nAT2 nx_343 nw_343 none nk_343.2.2.2.2.1 nk_343.2.2.2.2.2.1 nk_343.2.2.2.2.2.2 nk_343.2.2.1.1.length nk_343.2.2.1.2.1.length nk_343.2.1 nk_343.1 nu_343 46 nu_343_17 = true := by decide +kernel
set_option maxRecDepth 100000 in
theorem vf_343_18 : aFrom nj_M nFT nAT2 nx_343 nw_343 none nk_343.2.2.2.2.1 nk_343.2.2.2.2.2.1 nk_343.2.2.2.2.2.2 nk_343.2.2.1.1.length nk_343.2.2.1.2.1.length nk_343.2.1 nk_343.1 nu_343 46 nu_343_18 = true := by decide +kernel
set_option maxRecDepth 100000 in
theorem vf_343_19 : aFrom nj_M nFT nAT2 nx_343 nw_343 none nk_343.2.2.2.2.1 nk_343.2.2.2.2.2.1 nk_343.2.2.2.2.2.2 nk_343.2.2.1.1.length nk_343.2.2.1.2.1.length nk_343.2.1 nk_343.1 nu_343 46 nu_343_19 = true := by decide +kernel
set_option maxRecDepth 100000 in
theorem vf_343_20 : aFrom nj_M nFT nAT2 nx_343 nw_343 none nk_343.2.2.2.2.1 nk_343.2.2.2.2.2.1 nk_343.2.2.2.2.2.2 nk_343.2.2.1.1.length nk_343.2.2.1.2.1.length nk_343.2.1 nk_343.1 nu_343 46 nu_343_20 = true := by decide +kernel
set_option maxRecDepth 100000 in
theorem vf_343_21 : aFrom nj_M nFT nAT2 nx_343 nw_343 none nk_343.2.2.2.2.1 nk_343.2.2.2.2.2.1 nk_343.2.2.2.2.2.2 nk_343.2.2.1.1.length nk_343.2.2.1.2.1.length nk_343.2.1 nk_343.1 nu_343 46 nu_343_21 = true := by decide +kernel
set_option maxRecDepth 100000 in
theorem vf_343_22 : aFrom nj_M nFT nAT2 nx_343 nw_343 none nk_343.2.2.2.2.1 nk_343.2.2.2.2.2.1 nk_343.2.2.2.2.2.2 nk_343.2.2.1.1.length nk_343.2.2.1.2.1.length nk_343.2.1 nk_343.1 nu_343 46 nu_343_22 = true := by decide +kernel
set_option maxRecDepth 100000 in
theorem vf_343_23 : aFrom nj_M nFT nAT2 nx_343 nw_343 none nk_343.2.2.2.2.1 nk_343.2.2.2.2.2.1 nk_343.2.2.2.2.2.2 nk_343.2.2.1.1.length nk_343.2.2.1.2.1.length nk_343.2.1 nk_343.1 nu_343 46 nu_343_23 = true := by decide +kernel
set_option maxRecDepth 100000 in
theorem vf_343_24 : aFrom nj_M nFT nAT2 nx_343 nw_343 none nk_343.2.2.2.2.1 nk_343.2.2.2.2.2.1 nk_343.2.2.2.2.2.2 nk_343.2.2.1.1.length nk_343.2.2.1.2.1.length nk_343.2.1 nk_343.1 nu_343 46 nu_343_24 = true := by decide +kernel
set_option maxRecDepth 100000 in
theorem vf_343_25 : aFrom nj_M nFT nAT2 nx_343 nw_343 none nk_343.2.2.2.2.1 nk_343.2.2.2.2.2.1 nk_343.2.2.2.2.2.2 nk_343.2.2.1.1.length nk_343.2.2.1.2.1.length nk_343.2.1 nk_343.1 nu_343 46 nu_343_25 = true := by decide +kernel
