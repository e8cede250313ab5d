set_option maxRecDepth 100000 in
theorem vf_368_0 : aFrom nj_M nFT nAT2 nx_368 nw_368 none nk_368.2.2.2.2.1 nk_368.2.2.2.2.2.1 nk_368.2.2.2.2.2.2 nk_368.2.2.1.1.length nk_368.2.2.1.2.1.length nk_368.2.1 nk_368.1 nu_368 46 nu_368_0 = true := by decide +kernel
set_option maxRecDepth 100000 in
theorem vf_368_1 : aFrom nj_M nFT nAT2 nx_368 nw_368 none nk_368.2.2.2.2.1 nk_368.2.2.2.2.2.1 nk_368.2.2.2.2.2.2 nk_368.2.2.1.1.length nk_368.2.2.1.2.1.length nk_368.2.1 nk_368.1 nu_368 46 nu_368_1 = true := by decide +kernel
set_option maxRecDepth 100000 in
theorem vf_368_2 : aFrom nj_M nFT nAT2 nx_368 nw_368 none nk_368.2.2.2.2.1 nk_368.2.2.2.2.2.1 nk_368.2.2.2.2.2.2 nk_368.2.2.1.1.length nk_368.2.2.1.2.1.length nk_368.2.1 nk_368.1 nu_368 46 nu_368_2 = true := by decide +kernel
set_option maxRecDepth 100000 in
theorem vf_368_3 : aFrom nj_M nFT nAT2 nx_368 nw_368 none nk_368.2.2.2.2.1 nk_368.2.2.2.2.2.1 nk_368.2.2.2.2.2.2 nk_368.2.2.1.1.length nk_368.2.2.1.2.1.length nk_368.2.1 nk_368.1 nu_368 46 nu_368_3 = true := by decide +kernel
set_option maxRecDepth 100000 in
theorem vf_368_4 : aFrom nj_M nFT nAT2 nx_368 nw_368 none nk_368.2.2.2.2.1 nk_368.2.2.2.2.2.1 nk_368.2.2.2.2.2.2 nk_368.2.2.1.1.length nk_368.2.2.1.2.1.length nk_368.2.1 nk_368.1 nu_368 46 nu_368_4 = true := by decide +kernel
set_option maxRecDepth 100000 in
theorem vf_368_5 : aFrom nj_M nFT nAT2 nx_368 nw_368 none nk_368.2.2.2.2.1 nk_368.2.2.2.2.2.1 nk_368.2.2.2.2.2.2 nk_368.2.2.1.1.length nk_368.2.2.1.2.1.length nk_368.2.1 nk_368.1 nu_368 46 nu_368_5 = true := by decide +kernel
set_option maxRecDepth 100000 in
theorem vf_368_6 : aFrom nj_M nFT nAT2 nx_368 nw_368 none nk_368.2.2.2.2.1 nk_368.2.2.2.2.2.1 nk_368.2.2.2.2.2.2 nk_368.2.2.1.1.length nk_368.2.2.1.2.1.length nk_368.2.1 nk_368.1 nu_368 46 nu_368_6 = true := by decide +kernel
set_option maxRecDepth 100000 in
theorem vf_368_7 : aFrom nj_M nFT nAT2 nx_368 nw_368 none nk_368.2.2.2.2.1 nk_368.2.2.2.2.2.1 nk_368.2.2.2.2.2.2 nk_368.2.2.1.1.length nk_368.2.2.1.2.1.length nk_368.2.1 nk_368.1 nu_368 46 nu_368_7 = true := by decide +kernel
set_option maxRecDepth 100000 in
theorem vf_368_8 : aFrom nj_M nFT nAT2 nx_368 nw_368 none nk_368.2.2.2.2.1 nk_368.2.2.2.2.2.1 nk_368.2.2.2.2.2.2 nk_368.2.2.1.1.length nk_368.2.2.1.2.1.length nk_368.2.1 nk_368.1 nu_368 46 nu_368_8 = true := by decide +kernel
set_option maxRecDepth 100000 in
theorem vf_368_9 : aFrom nj_M nFT nAT2 nx_368 nw_368 none nk_368.2.2.2.2.1 nk_368.2.2.2.2.2.1 nk_368.2.2.2.2.2.2 nk_368.2.2.1.1.length nk_368.2.2.1.2.1.length nk_368.2.1 nk_368.1 nu_368 46 nu_368_9 = true := by decide +kernel
set_option maxRecDepth 100000 in
theorem vf_368_10 : aFrom nj_M nFT nAT2 nx_368 nw_368 none nk_368.2.2.2.2.1 nk_368.2.2.2.2.2.1 nk_368.2.2.2.2.2.2 nk_368.2.2.1.1.length nk_368.2.2.1.2.1.length nk_368.2.1 nk_368.1 nu_368 46 nu_368_10 = true := by decide +kernel
set_option maxRecDepth 100000 in
theorem vf_368_11 : aFrom nj_M nFT nAT2 nx_368 nw_368 none nk_368.2.2.2.2.1 nk_368.2.2.2.2.2.1 nk_368.2.2.2.2.2.2 nk_368.2.2.1.1.length nk_368.2.2.1.2.1.length nk_368.2.1 nk_368.1 nu_368 46 nu_368_11 = true := by decide +kernel
set_option maxRecDepth 100000 in
theorem vf_368_12 : aFrom nj_M nFT nAT2 nx_368 nw_368 none nk_368.2.2.2.2.1 nk_368.2.2.2.2.2.1 nk_368.2.2.2.2.2.2 nk_368.2.2.1.1.length nk_368.2.2.1.2.1.length nk_368.2.1 nk_368.1 nu_368 46 nu_368_12 = true := by decide +kernel
set_option maxRecDepth 100000 in
theorem vf_368_13 : aFrom nj_M nFT nAT2 nx_368 nw_368 none nk_368.2.2.2.2.1 nk_368.2.2.2.2.2.1 nk_368.2.2.2.2.2.2 nk_368.2.2.1.1.length nk_368.2.2.1.2.1.length nk_368.2.1 nk_368.1 nu_368 46 nu_368_13 = true := by decide +kernel
set_option maxRecDepth 100000 in
theorem vf_368_14 : aFrom nj_M nFT nAT2 nx_368 nw_368 none nk_368.2.2.2.2.1 nk_368.2.2.2.2.2.1 nk_368.2.2.2.2.2.2 nk_368.2.2.1.1.length nk_368.2.2.1.2.1.length nk_368.2.1 nk_368.1 nu_368 46 nu_368_14 = true := by decide +kernel
set_option maxRecDepth 100000 in
theorem vf_368_15 : aFrom nj_M nFT nAT2 nx_368 nw_368 none nk_368.2.2.2.2.1 nk_368.2.2.2.2.2.1 nk_368.2.2.2.2.2.2 nk_368.2.2.1.1.length nk_368.2.2.1.2.1.length nk_368.2.1 nk_368.1 nu_368 46 nu_368_15 = true := by decide +kernel
set_option maxRecDepth 100000 in
theorem vf_368_16 : aFrom nj_M nFT nAT2 nx_368 nw_368 none nk_368.2.2.2.2.1 nk_368.2.2.2.2.2.1 nk_368.2.2.2.2.2.2 nk_368.2.2.1.1.length nk_368.2.2.1.2.1.length nk_368.2.1 nk_368.1 nu_368 46 nu_368_16 = true := by decide +kernel
